set_option maxHeartbeats 4000000 in
set_option maxRecDepth 10000 in
theorem sf_X0_bodyFrom_2_2 (M : pvM) (hok : pvOk M) (d : Nat) : PW 1 d (0, [some (pvI 2), some (pvI 2), none, none, none], [], M) (fun r X => r = some (pvI (((pvstab 1041).getD (Int32.toNatClampNeg ((0 * 3) + 2)) 0))) ∧ X = M) := by
  have hT : pvdom 1 = pvD_1 := rfl
  refine pw_blk hT 4 (S' := (4, [some (pvI 2), some (pvI 2), some (pvI 2), some (pvI 0), none], [], M)) rfl ⟨trivial, trivial, trivial, trivial, trivial⟩ ?_
  refine pw_blk hT 3 (S' := (9, [some (pvI 2), some (pvI 2), some (pvI 2), some (pvI 0), none], [pvI (Int32.ofNat (pvstab 1041).length), pvI 0], M)) rfl ⟨trivial, trivial, (by decide), trivial⟩ ?_
  refine pw_ic hT (c := (Int32.ofNat (pvstab 1041).length) ≤ 0) rfl rfl (fun c1_ => absurd c1_ (by decide)) (fun c1_ => ?_)
  refine pw_blk hT 1 (S' := (13, [some (pvI 2), some (pvI 2), some (pvI 2), some (pvI 0), none], [pvI 2], M)) rfl ⟨trivial, trivial⟩ ?_
  refine pw_if hT (c := 2 < 0) rfl rfl (fun c2_ => absurd c2_ (by decide)) (fun c2_ => ?_)
  refine pw_blk hT 7 (S' := (25, [some (pvI 2), some (pvI 2), some (pvI 2), some (pvI 0), some (pvI ((2 * 3) + 2))], [pvI ((2 * 3) + 2)], M)) rfl ⟨trivial, trivial, trivial, trivial, trivial, trivial, trivial, trivial⟩ ?_
  refine pw_if hT (c := ((2 * 3) + 2) < 0) rfl rfl (fun c3_ => absurd c3_ (by decide)) (fun c3_ => ?_)
  refine pw_blk hT 3 (S' := (34, [some (pvI 2), some (pvI 2), some (pvI 2), some (pvI 0), some (pvI ((2 * 3) + 2))], [pvI (Int32.ofNat (pvstab 1041).length), pvI ((2 * 3) + 2)], M)) rfl ⟨trivial, trivial, (by decide), trivial⟩ ?_
  refine pw_ic hT (c := (Int32.ofNat (pvstab 1041).length) ≤ ((2 * 3) + 2)) rfl rfl (fun c4_ => absurd c4_ (by decide)) (fun c4_ => ?_)
  refine pw_blk hT 3 (S' := (43, [some (pvI 2), some (pvI 2), some (pvI 2), some (pvI 0), some (pvI ((2 * 3) + 2))], [pvI ((pvstab 1041).getD (Int32.toNatClampNeg ((2 * 3) + 2)) 0)], M)) rfl ⟨trivial, trivial, ⟨by decide, (zr_in (n := 21) (show 8 ≤ Int32.toInt ((2 * 3) + 2) ∧ Int32.toInt ((2 * 3) + 2) ≤ 8 from (by decide)) (by decide) (by decide))⟩, trivial⟩ ?_
  refine pw_if hT (c := ((pvstab 1041).getD (Int32.toNatClampNeg ((2 * 3) + 2)) 0) = 0) rfl rfl (fun c5_ => ?_) (fun c5_ => absurd (by decide) c5_)
  refine pw_blk hT 1 (S' := (54, [some (pvI 2), some (pvI 2), some (pvI 2), some (pvI 0), some (pvI ((2 * 3) + 2))], [pvI 2], M)) rfl ⟨trivial, trivial⟩ ?_
  refine pw_callT hT (as := [pvI 2]) (lo1 := [some (pvI 2)]) (d1 := d) (rest := []) rfl rfl rfl rfl rfl (fun h => absurd h (by decide)) (Nat.zero_le _) rfl rfl rfl (sf_X3_above_2 M hok d) ?_
  refine pw_eqI (show ((pvstab 1040).getD (Int32.toNatClampNeg 2) 0) = 0 from by decide) ?_
  show PW 1 d (57, [some (pvI 2), some (pvI 2), some (pvI 2), some (pvI 0), some (pvI ((2 * 3) + 2))], [pvI 0], M) _
  refine pw_blk hT 3 (S' := (4, [some (pvI 2), some (pvI 2), some (pvI 0), some (pvI (0 + 1)), some (pvI ((2 * 3) + 2))], [], M)) rfl ⟨trivial, trivial, trivial, trivial⟩ ?_
  refine pw_blk hT 3 (S' := (9, [some (pvI 2), some (pvI 2), some (pvI 0), some (pvI (0 + 1)), some (pvI ((2 * 3) + 2))], [pvI (Int32.ofNat (pvstab 1041).length), pvI (0 + 1)], M)) rfl ⟨trivial, trivial, (by decide), trivial⟩ ?_
  refine pw_ic hT (c := (Int32.ofNat (pvstab 1041).length) ≤ (0 + 1)) rfl rfl (fun c11_ => absurd c11_ (by decide)) (fun c11_ => ?_)
  refine pw_blk hT 1 (S' := (13, [some (pvI 2), some (pvI 2), some (pvI 0), some (pvI (0 + 1)), some (pvI ((2 * 3) + 2))], [pvI 0], M)) rfl ⟨trivial, trivial⟩ ?_
  refine pw_if hT (c := 0 < 0) rfl rfl (fun c12_ => absurd c12_ (by decide)) (fun c12_ => ?_)
  refine pw_blk hT 7 (S' := (25, [some (pvI 2), some (pvI 2), some (pvI 0), some (pvI (0 + 1)), some (pvI ((0 * 3) + 2))], [pvI ((0 * 3) + 2)], M)) rfl ⟨trivial, trivial, trivial, trivial, trivial, trivial, trivial, trivial⟩ ?_
  refine pw_if hT (c := ((0 * 3) + 2) < 0) rfl rfl (fun c13_ => absurd c13_ (by decide)) (fun c13_ => ?_)
  refine pw_blk hT 3 (S' := (34, [some (pvI 2), some (pvI 2), some (pvI 0), some (pvI (0 + 1)), some (pvI ((0 * 3) + 2))], [pvI (Int32.ofNat (pvstab 1041).length), pvI ((0 * 3) + 2)], M)) rfl ⟨trivial, trivial, (by decide), trivial⟩ ?_
  refine pw_ic hT (c := (Int32.ofNat (pvstab 1041).length) ≤ ((0 * 3) + 2)) rfl rfl (fun c14_ => absurd c14_ (by decide)) (fun c14_ => ?_)
  refine pw_blk hT 3 (S' := (43, [some (pvI 2), some (pvI 2), some (pvI 0), some (pvI (0 + 1)), some (pvI ((0 * 3) + 2))], [pvI ((pvstab 1041).getD (Int32.toNatClampNeg ((0 * 3) + 2)) 0)], M)) rfl ⟨trivial, trivial, ⟨by decide, (zr_in (n := 21) (show 2 ≤ Int32.toInt ((0 * 3) + 2) ∧ Int32.toInt ((0 * 3) + 2) ≤ 2 from (by decide)) (by decide) (by decide))⟩, trivial⟩ ?_
  refine pw_if hT (c := ((pvstab 1041).getD (Int32.toNatClampNeg ((0 * 3) + 2)) 0) = 0) rfl rfl (fun c15_ => absurd c15_ (by decide)) (fun c15_ => ?_)
  refine pw_blk hT 3 (S' := (52, [some (pvI 2), some (pvI 2), some (pvI 0), some (pvI (0 + 1)), some (pvI ((0 * 3) + 2))], [pvI ((pvstab 1041).getD (Int32.toNatClampNeg ((0 * 3) + 2)) 0)], M)) rfl ⟨trivial, trivial, ⟨by decide, (zr_in (n := 21) (show 2 ≤ Int32.toInt ((0 * 3) + 2) ∧ Int32.toInt ((0 * 3) + 2) ≤ 2 from (by decide)) (by decide) (by decide))⟩, trivial⟩ ?_
  exact pw_ret hT rfl (r := some (pvI ((pvstab 1041).getD (Int32.toNatClampNeg ((0 * 3) + 2)) 0))) (M' := M) ⟨rfl, rfl⟩ ⟨rfl, rfl⟩
set_option maxHeartbeats 4000000 in
set_option maxRecDepth 10000 in
theorem sf_X3_above_3 (M : pvM) (hok : pvOk M) (d : Nat) : PW 131 d (0, [some (pvI 3)], [], M) (fun r X => r = some (pvI (((pvstab 1040).getD (Int32.toNatClampNeg 3) 0))) ∧ X = M) := by
  have hT : pvdom 131 = pvD_131 := rfl
  refine pw_blk hT 1 (S' := (1, [some (pvI 3)], [pvI 3], M)) rfl ⟨trivial, trivial⟩ ?_
  refine pw_if hT (c := 3 < 0) rfl rfl (fun c1_ => absurd c1_ (by decide)) (fun c1_ => ?_)
  refine pw_blk hT 3 (S' := (9, [some (pvI 3)], [pvI (Int32.ofNat (pvstab 1040).length), pvI 3], M)) rfl ⟨trivial, trivial, (by decide), trivial⟩ ?_
  refine pw_ic hT (c := 3 < (Int32.ofNat (pvstab 1040).length)) rfl rfl (fun c2_ => ?_) (fun c2_ => absurd (by decide) c2_)
  refine pw_blk hT 3 (S' := (21, [some (pvI 3)], [pvI ((pvstab 1040).getD (Int32.toNatClampNeg 3) 0)], M)) rfl ⟨trivial, trivial, ⟨by decide, (zr_in (n := 7) (show 3 ≤ Int32.toInt 3 ∧ Int32.toInt 3 ≤ 3 from (by decide)) (by decide) (by decide))⟩, trivial⟩ ?_
  exact pw_ret hT rfl (r := some (pvI ((pvstab 1040).getD (Int32.toNatClampNeg 3) 0))) (M' := M) ⟨rfl, rfl⟩ ⟨rfl, rfl⟩
set_option maxHeartbeats 4000000 in
set_option maxRecDepth 10000 in
theorem sf_X0_bodyFrom_3_0 (M : pvM) (hok : pvOk M) (d : Nat) : PW 1 d (0, [some (pvI 3), some (pvI 0), none, none, none], [], M) (fun r X => r = some (pvI (((pvstab 1041).getD (Int32.toNatClampNeg ((0 * 3) + 0)) 0))) ∧ X = M) := by
  have hT : pvdom 1 = pvD_1 := rfl
  refine pw_blk hT 4 (S' := (4, [some (pvI 3), some (pvI 0), some (pvI 3), some (pvI 0), none], [], M)) rfl ⟨trivial, trivial, trivial, trivial, trivial⟩ ?_
  refine pw_blk hT 3 (S' := (9, [some (pvI 3), some (pvI 0), some (pvI 3), some (pvI 0), none], [pvI (Int32.ofNat (pvstab 1041).length), pvI 0], M)) rfl ⟨trivial, trivial, (by decide), trivial⟩ ?_
  refine pw_ic hT (c := (Int32.ofNat (pvstab 1041).length) ≤ 0) rfl rfl (fun c1_ => absurd c1_ (by decide)) (fun c1_ => ?_)
  refine pw_blk hT 1 (S' := (13, [some (pvI 3), some (pvI 0), some (pvI 3), some (pvI 0), none], [pvI 3], M)) rfl ⟨trivial, trivial⟩ ?_
  refine pw_if hT (c := 3 < 0) rfl rfl (fun c2_ => absurd c2_ (by decide)) (fun c2_ => ?_)
  refine pw_blk hT 7 (S' := (25, [some (pvI 3), some (pvI 0), some (pvI 3), some (pvI 0), some (pvI ((3 * 3) + 0))], [pvI ((3 * 3) + 0)], M)) rfl ⟨trivial, trivial, trivial, trivial, trivial, trivial, trivial, trivial⟩ ?_
  refine pw_if hT (c := ((3 * 3) + 0) < 0) rfl rfl (fun c3_ => absurd c3_ (by decide)) (fun c3_ => ?_)
  refine pw_blk hT 3 (S' := (34, [some (pvI 3), some (pvI 0), some (pvI 3), some (pvI 0), some (pvI ((3 * 3) + 0))], [pvI (Int32.ofNat (pvstab 1041).length), pvI ((3 * 3) + 0)], M)) rfl ⟨trivial, trivial, (by decide), trivial⟩ ?_
  refine pw_ic hT (c := (Int32.ofNat (pvstab 1041).length) ≤ ((3 * 3) + 0)) rfl rfl (fun c4_ => absurd c4_ (by decide)) (fun c4_ => ?_)
  refine pw_blk hT 3 (S' := (43, [some (pvI 3), some (pvI 0), some (pvI 3), some (pvI 0), some (pvI ((3 * 3) + 0))], [pvI ((pvstab 1041).getD (Int32.toNatClampNeg ((3 * 3) + 0)) 0)], M)) rfl ⟨trivial, trivial, ⟨by decide, (zr_in (n := 21) (show 9 ≤ Int32.toInt ((3 * 3) + 0) ∧ Int32.toInt ((3 * 3) + 0) ≤ 9 from (by decide)) (by decide) (by decide))⟩, trivial⟩ ?_
  refine pw_if hT (c := ((pvstab 1041).getD (Int32.toNatClampNeg ((3 * 3) + 0)) 0) = 0) rfl rfl (fun c5_ => ?_) (fun c5_ => absurd (by decide) c5_)
  refine pw_blk hT 1 (S' := (54, [some (pvI 3), some (pvI 0), some (pvI 3), some (pvI 0), some (pvI ((3 * 3) + 0))], [pvI 3], M)) rfl ⟨trivial, trivial⟩ ?_
  refine pw_callT hT (as := [pvI 3]) (lo1 := [some (pvI 3)]) (d1 := d) (rest := []) rfl rfl rfl rfl rfl (fun h => absurd h (by decide)) (Nat.zero_le _) rfl rfl rfl (sf_X3_above_3 M hok d) ?_
  refine pw_eqI (show ((pvstab 1040).getD (Int32.toNatClampNeg 3) 0) = 0 from by decide) ?_
  show PW 1 d (57, [some (pvI 3), some (pvI 0), some (pvI 3), some (pvI 0), some (pvI ((3 * 3) + 0))], [pvI 0], M) _
  refine pw_blk hT 3 (S' := (4, [some (pvI 3), some (pvI 0), some (pvI 0), some (pvI (0 + 1)), some (pvI ((3 * 3) + 0))], [], M)) rfl ⟨trivial, trivial, trivial, trivial⟩ ?_
  refine pw_blk hT 3 (S' := (9, [some (pvI 3), some (pvI 0), some (pvI 0), some (pvI (0 + 1)), some (pvI ((3 * 3) + 0))], [pvI (Int32.ofNat (pvstab 1041).length), pvI (0 + 1)], M)) rfl ⟨trivial, trivial, (by decide), trivial⟩ ?_
  refine pw_ic hT (c := (Int32.ofNat (pvstab 1041).length) ≤ (0 + 1)) rfl rfl (fun c11_ => absurd c11_ (by decide)) (fun c11_ => ?_)
  refine pw_blk hT 1 (S' := (13, [some (pvI 3), some (pvI 0), some (pvI 0), some (pvI (0 + 1)), some (pvI ((3 * 3) + 0))], [pvI 0], M)) rfl ⟨trivial, trivial⟩ ?_
  refine pw_if hT (c := 0 < 0) rfl rfl (fun c12_ => absurd c12_ (by decide)) (fun c12_ => ?_)
  refine pw_blk hT 7 (S' := (25, [some (pvI 3), some (pvI 0), some (pvI 0), some (pvI (0 + 1)), some (pvI ((0 * 3) + 0))], [pvI ((0 * 3) + 0)], M)) rfl ⟨trivial, trivial, trivial, trivial, trivial, trivial, trivial, trivial⟩ ?_
  refine pw_if hT (c := ((0 * 3) + 0) < 0) rfl rfl (fun c13_ => absurd c13_ (by decide)) (fun c13_ => ?_)
  refine pw_blk hT 3 (S' := (34, [some (pvI 3), some (pvI 0), some (pvI 0), some (pvI (0 + 1)), some (pvI ((0 * 3) + 0))], [pvI (Int32.ofNat (pvstab 1041).length), pvI ((0 * 3) + 0)], M)) rfl ⟨trivial, trivial, (by decide), trivial⟩ ?_
  refine pw_ic hT (c := (Int32.ofNat (pvstab 1041).length) ≤ ((0 * 3) + 0)) rfl rfl (fun c14_ => absurd c14_ (by decide)) (fun c14_ => ?_)
  refine pw_blk hT 3 (S' := (43, [some (pvI 3), some (pvI 0), some (pvI 0), some (pvI (0 + 1)), some (pvI ((0 * 3) + 0))], [pvI ((pvstab 1041).getD (Int32.toNatClampNeg ((0 * 3) + 0)) 0)], M)) rfl ⟨trivial, trivial, ⟨by decide, (zr_in (n := 21) (show 0 ≤ Int32.toInt ((0 * 3) + 0) ∧ Int32.toInt ((0 * 3) + 0) ≤ 0 from (by decide)) (by decide) (by decide))⟩, trivial⟩ ?_
  refine pw_if hT (c := ((pvstab 1041).getD (Int32.toNatClampNeg ((0 * 3) + 0)) 0) = 0) rfl rfl (fun c15_ => absurd c15_ (by decide)) (fun c15_ => ?_)
  refine pw_blk hT 3 (S' := (52, [some (pvI 3), some (pvI 0), some (pvI 0), some (pvI (0 + 1)), some (pvI ((0 * 3) + 0))], [pvI ((pvstab 1041).getD (Int32.toNatClampNeg ((0 * 3) + 0)) 0)], M)) rfl ⟨trivial, trivial, ⟨by decide, (zr_in (n := 21) (show 0 ≤ Int32.toInt ((0 * 3) + 0) ∧ Int32.toInt ((0 * 3) + 0) ≤ 0 from (by decide)) (by decide) (by decide))⟩, trivial⟩ ?_
  exact pw_ret hT rfl (r := some (pvI ((pvstab 1041).getD (Int32.toNatClampNeg ((0 * 3) + 0)) 0))) (M' := M) ⟨rfl, rfl⟩ ⟨rfl, rfl⟩
set_option maxHeartbeats 4000000 in
set_option maxRecDepth 10000 in
theorem sf_X0_bodyFrom_3_1 (M : pvM) (hok : pvOk M) (d : Nat) : PW 1 d (0, [some (pvI 3), some (pvI 1), none, none, none], [], M) (fun r X => r = some (pvI (((pvstab 1041).getD (Int32.toNatClampNeg ((0 * 3) + 1)) 0))) ∧ X = M) := by
  have hT : pvdom 1 = pvD_1 := rfl
  refine pw_blk hT 4 (S' := (4, [some (pvI 3), some (pvI 1), some (pvI 3), some (pvI 0), none], [], M)) rfl ⟨trivial, trivial, trivial, trivial, trivial⟩ ?_
  refine pw_blk hT 3 (S' := (9, [some (pvI 3), some (pvI 1), some (pvI 3), some (pvI 0), none], [pvI (Int32.ofNat (pvstab 1041).length), pvI 0], M)) rfl ⟨trivial, trivial, (by decide), trivial⟩ ?_
  refine pw_ic hT (c := (Int32.ofNat (pvstab 1041).length) ≤ 0) rfl rfl (fun c1_ => absurd c1_ (by decide)) (fun c1_ => ?_)
  refine pw_blk hT 1 (S' := (13, [some (pvI 3), some (pvI 1), some (pvI 3), some (pvI 0), none], [pvI 3], M)) rfl ⟨trivial, trivial⟩ ?_
  refine pw_if hT (c := 3 < 0) rfl rfl (fun c2_ => absurd c2_ (by decide)) (fun c2_ => ?_)
  refine pw_blk hT 7 (S' := (25, [some (pvI 3), some (pvI 1), some (pvI 3), some (pvI 0), some (pvI ((3 * 3) + 1))], [pvI ((3 * 3) + 1)], M)) rfl ⟨trivial, trivial, trivial, trivial, trivial, trivial, trivial, trivial⟩ ?_
  refine pw_if hT (c := ((3 * 3) + 1) < 0) rfl rfl (fun c3_ => absurd c3_ (by decide)) (fun c3_ => ?_)
  refine pw_blk hT 3 (S' := (34, [some (pvI 3), some (pvI 1), some (pvI 3), some (pvI 0), some (pvI ((3 * 3) + 1))], [pvI (Int32.ofNat (pvstab 1041).length), pvI ((3 * 3) + 1)], M)) rfl ⟨trivial, trivial, (by decide), trivial⟩ ?_
  refine pw_ic hT (c := (Int32.ofNat (pvstab 1041).length) ≤ ((3 * 3) + 1)) rfl rfl (fun c4_ => absurd c4_ (by decide)) (fun c4_ => ?_)
  refine pw_blk hT 3 (S' := (43, [some (pvI 3), some (pvI 1), some (pvI 3), some (pvI 0), some (pvI ((3 * 3) + 1))], [pvI ((pvstab 1041).getD (Int32.toNatClampNeg ((3 * 3) + 1)) 0)], M)) rfl ⟨trivial, trivial, ⟨by decide, (zr_in (n := 21) (show 10 ≤ Int32.toInt ((3 * 3) + 1) ∧ Int32.toInt ((3 * 3) + 1) ≤ 10 from (by decide)) (by decide) (by decide))⟩, trivial⟩ ?_
  refine pw_if hT (c := ((pvstab 1041).getD (Int32.toNatClampNeg ((3 * 3) + 1)) 0) = 0) rfl rfl (fun c5_ => ?_) (fun c5_ => absurd (by decide) c5_)
  refine pw_blk hT 1 (S' := (54, [some (pvI 3), some (pvI 1), some (pvI 3), some (pvI 0), some (pvI ((3 * 3) + 1))], [pvI 3], M)) rfl ⟨trivial, trivial⟩ ?_
  refine pw_callT hT (as := [pvI 3]) (lo1 := [some (pvI 3)]) (d1 := d) (rest := []) rfl rfl rfl rfl rfl (fun h => absurd h (by decide)) (Nat.zero_le _) rfl rfl rfl (sf_X3_above_3 M hok d) ?_
  refine pw_eqI (show ((pvstab 1040).getD (Int32.toNatClampNeg 3) 0) = 0 from by decide) ?_
  show PW 1 d (57, [some (pvI 3), some (pvI 1), some (pvI 3), some (pvI 0), some (pvI ((3 * 3) + 1))], [pvI 0], M) _
  refine pw_blk hT 3 (S' := (4, [some (pvI 3), some (pvI 1), some (pvI 0), some (pvI (0 + 1)), some (pvI ((3 * 3) + 1))], [], M)) rfl ⟨trivial, trivial, trivial, trivial⟩ ?_
  refine pw_blk hT 3 (S' := (9, [some (pvI 3), some (pvI 1), some (pvI 0), some (pvI (0 + 1)), some (pvI ((3 * 3) + 1))], [pvI (Int32.ofNat (pvstab 1041).length), pvI (0 + 1)], M)) rfl ⟨trivial, trivial, (by decide), trivial⟩ ?_
  refine pw_ic hT (c := (Int32.ofNat (pvstab 1041).length) ≤ (0 + 1)) rfl rfl (fun c11_ => absurd c11_ (by decide)) (fun c11_ => ?_)
  refine pw_blk hT 1 (S' := (13, [some (pvI 3), some (pvI 1), some (pvI 0), some (pvI (0 + 1)), some (pvI ((3 * 3) + 1))], [pvI 0], M)) rfl ⟨trivial, trivial⟩ ?_
  refine pw_if hT (c := 0 < 0) rfl rfl (fun c12_ => absurd c12_ (by decide)) (fun c12_ => ?_)
  refine pw_blk hT 7 (S' := (25, [some (pvI 3), some (pvI 1), some (pvI 0), some (pvI (0 + 1)), some (pvI ((0 * 3) + 1))], [pvI ((0 * 3) + 1)], M)) rfl ⟨trivial, trivial, trivial, trivial, trivial, trivial, trivial, trivial⟩ ?_
  refine pw_if hT (c := ((0 * 3) + 1) < 0) rfl rfl (fun c13_ => absurd c13_ (by decide)) (fun c13_ => ?_)
  refine pw_blk hT 3 (S' := (34, [some (pvI 3), some (pvI 1), some (pvI 0), some (pvI (0 + 1)), some (pvI ((0 * 3) + 1))], [pvI (Int32.ofNat (pvstab 1041).length), pvI ((0 * 3) + 1)], M)) rfl ⟨trivial, trivial, (by decide), trivial⟩ ?_
  refine pw_ic hT (c := (Int32.ofNat (pvstab 1041).length) ≤ ((0 * 3) + 1)) rfl rfl (fun c14_ => absurd c14_ (by decide)) (fun c14_ => ?_)
  refine pw_blk hT 3 (S' := (43, [some (pvI 3), some (pvI 1), some (pvI 0), some (pvI (0 + 1)), some (pvI ((0 * 3) + 1))], [pvI ((pvstab 1041).getD (Int32.toNatClampNeg ((0 * 3) + 1)) 0)], M)) rfl ⟨trivial, trivial, ⟨by decide, (zr_in (n := 21) (show 1 ≤ Int32.toInt ((0 * 3) + 1) ∧ Int32.toInt ((0 * 3) + 1) ≤ 1 from (by decide)) (by decide) (by decide))⟩, trivial⟩ ?_
  refine pw_if hT (c := ((pvstab 1041).getD (Int32.toNatClampNeg ((0 * 3) + 1)) 0) = 0) rfl rfl (fun c15_ => absurd c15_ (by decide)) (fun c15_ => ?_)
  refine pw_blk hT 3 (S' := (52, [some (pvI 3), some (pvI 1), some (pvI 0), some (pvI (0 + 1)), some (pvI ((0 * 3) + 1))], [pvI ((pvstab 1041).getD (Int32.toNatClampNeg ((0 * 3) + 1)) 0)], M)) rfl ⟨trivial, trivial, ⟨by decide, (zr_in (n := 21) (show 1 ≤ Int32.toInt ((0 * 3) + 1) ∧ Int32.toInt ((0 * 3) + 1) ≤ 1 from (by decide)) (by decide) (by decide))⟩, trivial⟩ ?_
  exact pw_ret hT rfl (r := some (pvI ((pvstab 1041).getD (Int32.toNatClampNeg ((0 * 3) + 1)) 0))) (M' := M) ⟨rfl, rfl⟩ ⟨rfl, rfl⟩
set_option maxHeartbeats 4000000 in
set_option maxRecDepth 10000 in
theorem sf_X0_bodyFrom_3_2 (M : pvM) (hok : pvOk M) (d : Nat) : PW 1 d (0, [some (pvI 3), some (pvI 2), none, none, none], [], M) (fun r X => r = some (pvI (((pvstab 1041).getD (Int32.toNatClampNeg ((3 * 3) + 2)) 0))) ∧ X = M) := by
  have hT : pvdom 1 = pvD_1 := rfl
  refine pw_blk hT 4 (S' := (4, [some (pvI 3), some (pvI 2), some (pvI 3), some (pvI 0), none], [], M)) rfl ⟨trivial, trivial, trivial, trivial, trivial⟩ ?_
  refine pw_blk hT 3 (S' := (9, [some (pvI 3), some (pvI 2), some (pvI 3), some (pvI 0), none], [pvI (Int32.ofNat (pvstab 1041).length), pvI 0], M)) rfl ⟨trivial, trivial, (by decide), trivial⟩ ?_
  refine pw_ic hT (c := (Int32.ofNat (pvstab 1041).length) ≤ 0) rfl rfl (fun c1_ => absurd c1_ (by decide)) (fun c1_ => ?_)
  refine pw_blk hT 1 (S' := (13, [some (pvI 3), some (pvI 2), some (pvI 3), some (pvI 0), none], [pvI 3], M)) rfl ⟨trivial, trivial⟩ ?_
  refine pw_if hT (c := 3 < 0) rfl rfl (fun c2_ => absurd c2_ (by decide)) (fun c2_ => ?_)
  refine pw_blk hT 7 (S' := (25, [some (pvI 3), some (pvI 2), some (pvI 3), some (pvI 0), some (pvI ((3 * 3) + 2))], [pvI ((3 * 3) + 2)], M)) rfl ⟨trivial, trivial, trivial, trivial, trivial, trivial, trivial, trivial⟩ ?_
  refine pw_if hT (c := ((3 * 3) + 2) < 0) rfl rfl (fun c3_ => absurd c3_ (by decide)) (fun c3_ => ?_)
  refine pw_blk hT 3 (S' := (34, [some (pvI 3), some (pvI 2), some (pvI 3), some (pvI 0), some (pvI ((3 * 3) + 2))], [pvI (Int32.ofNat (pvstab 1041).length), pvI ((3 * 3) + 2)], M)) rfl ⟨trivial, trivial, (by decide), trivial⟩ ?_
  refine pw_ic hT (c := (Int32.ofNat (pvstab 1041).length) ≤ ((3 * 3) + 2)) rfl rfl (fun c4_ => absurd c4_ (by decide)) (fun c4_ => ?_)
  refine pw_blk hT 3 (S' := (43, [some (pvI 3), some (pvI 2), some (pvI 3), some (pvI 0), some (pvI ((3 * 3) + 2))], [pvI ((pvstab 1041).getD (Int32.toNatClampNeg ((3 * 3) + 2)) 0)], M)) rfl ⟨trivial, trivial, ⟨by decide, (zr_in (n := 21) (show 11 ≤ Int32.toInt ((3 * 3) + 2) ∧ Int32.toInt ((3 * 3) + 2) ≤ 11 from (by decide)) (by decide) (by decide))⟩, trivial⟩ ?_
  refine pw_if hT (c := ((pvstab 1041).getD (Int32.toNatClampNeg ((3 * 3) + 2)) 0) = 0) rfl rfl (fun c5_ => absurd c5_ (by decide)) (fun c5_ => ?_)
  refine pw_blk hT 3 (S' := (52, [some (pvI 3), some (pvI 2), some (pvI 3), some (pvI 0), some (pvI ((3 * 3) + 2))], [pvI ((pvstab 1041).getD (Int32.toNatClampNeg ((3 * 3) + 2)) 0)], M)) rfl ⟨trivial, trivial, ⟨by decide, (zr_in (n := 21) (show 11 ≤ Int32.toInt ((3 * 3) + 2) ∧ Int32.toInt ((3 * 3) + 2) ≤ 11 from (by decide)) (by decide) (by decide))⟩, trivial⟩ ?_
  exact pw_ret hT rfl (r := some (pvI ((pvstab 1041).getD (Int32.toNatClampNeg ((3 * 3) + 2)) 0))) (M' := M) ⟨rfl, rfl⟩ ⟨rfl, rfl⟩
set_option maxHeartbeats 4000000 in
set_option maxRecDepth 10000 in
theorem sf_X0_bodyFrom_4_0 (M : pvM) (hok : pvOk M) (d : Nat) : PW 1 d (0, [some (pvI 4), some (pvI 0), none, none, none], [], M) (fun r X => r = some (pvI (((pvstab 1041).getD (Int32.toNatClampNeg ((4 * 3) + 0)) 0))) ∧ X = M) := by
  have hT : pvdom 1 = pvD_1 := rfl
  refine pw_blk hT 4 (S' := (4, [some (pvI 4), some (pvI 0), some (pvI 4), some (pvI 0), none], [], M)) rfl ⟨trivial, trivial, trivial, trivial, trivial⟩ ?_
  refine pw_blk hT 3 (S' := (9, [some (pvI 4), some (pvI 0), some (pvI 4), some (pvI 0), none], [pvI (Int32.ofNat (pvstab 1041).length), pvI 0], M)) rfl ⟨trivial, trivial, (by decide), trivial⟩ ?_
  refine pw_ic hT (c := (Int32.ofNat (pvstab 1041).length) ≤ 0) rfl rfl (fun c1_ => absurd c1_ (by decide)) (fun c1_ => ?_)
  refine pw_blk hT 1 (S' := (13, [some (pvI 4), some (pvI 0), some (pvI 4), some (pvI 0), none], [pvI 4], M)) rfl ⟨trivial, trivial⟩ ?_
  refine pw_if hT (c := 4 < 0) rfl rfl (fun c2_ => absurd c2_ (by decide)) (fun c2_ => ?_)
  refine pw_blk hT 7 (S' := (25, [some (pvI 4), some (pvI 0), some (pvI 4), some (pvI 0), some (pvI ((4 * 3) + 0))], [pvI ((4 * 3) + 0)], M)) rfl ⟨trivial, trivial, trivial, trivial, trivial, trivial, trivial, trivial⟩ ?_
  refine pw_if hT (c := ((4 * 3) + 0) < 0) rfl rfl (fun c3_ => absurd c3_ (by decide)) (fun c3_ => ?_)
  refine pw_blk hT 3 (S' := (34, [some (pvI 4), some (pvI 0), some (pvI 4), some (pvI 0), some (pvI ((4 * 3) + 0))], [pvI (Int32.ofNat (pvstab 1041).length), pvI ((4 * 3) + 0)], M)) rfl ⟨trivial, trivial, (by decide), trivial⟩ ?_
  refine pw_ic hT (c := (Int32.ofNat (pvstab 1041).length) ≤ ((4 * 3) + 0)) rfl rfl (fun c4_ => absurd c4_ (by decide)) (fun c4_ => ?_)
  refine pw_blk hT 3 (S' := (43, [some (pvI 4), some (pvI 0), some (pvI 4), some (pvI 0), some (pvI ((4 * 3) + 0))], [pvI ((pvstab 1041).getD (Int32.toNatClampNeg ((4 * 3) + 0)) 0)], M)) rfl ⟨trivial, trivial, ⟨by decide, (zr_in (n := 21) (show 12 ≤ Int32.toInt ((4 * 3) + 0) ∧ Int32.toInt ((4 * 3) + 0) ≤ 12 from (by decide)) (by decide) (by decide))⟩, trivial⟩ ?_
  refine pw_if hT (c := ((pvstab 1041).getD (Int32.toNatClampNeg ((4 * 3) + 0)) 0) = 0) rfl rfl (fun c5_ => absurd c5_ (by decide)) (fun c5_ => ?_)
  refine pw_blk hT 3 (S' := (52, [some (pvI 4), some (pvI 0), some (pvI 4), some (pvI 0), some (pvI ((4 * 3) + 0))], [pvI ((pvstab 1041).getD (Int32.toNatClampNeg ((4 * 3) + 0)) 0)], M)) rfl ⟨trivial, trivial, ⟨by decide, (zr_in (n := 21) (show 12 ≤ Int32.toInt ((4 * 3) + 0) ∧ Int32.toInt ((4 * 3) + 0) ≤ 12 from (by decide)) (by decide) (by decide))⟩, trivial⟩ ?_
  exact pw_ret hT rfl (r := some (pvI ((pvstab 1041).getD (Int32.toNatClampNeg ((4 * 3) + 0)) 0))) (M' := M) ⟨rfl, rfl⟩ ⟨rfl, rfl⟩
set_option maxHeartbeats 4000000 in
set_option maxRecDepth 10000 in
theorem sf_X0_bodyFrom_4_1 (M : pvM) (hok : pvOk M) (d : Nat) : PW 1 d (0, [some (pvI 4), some (pvI 1), none, none, none], [], M) (fun r X => r = some (pvI (((pvstab 1041).getD (Int32.toNatClampNeg ((4 * 3) + 1)) 0))) ∧ X = M) := by
  have hT : pvdom 1 = pvD_1 := rfl
  refine pw_blk hT 4 (S' := (4, [some (pvI 4), some (pvI 1), some (pvI 4), some (pvI 0), none], [], M)) rfl ⟨trivial, trivial, trivial, trivial, trivial⟩ ?_
  refine pw_blk hT 3 (S' := (9, [some (pvI 4), some (pvI 1), some (pvI 4), some (pvI 0), none], [pvI (Int32.ofNat (pvstab 1041).length), pvI 0], M)) rfl ⟨trivial, trivial, (by decide), trivial⟩ ?_
  refine pw_ic hT (c := (Int32.ofNat (pvstab 1041).length) ≤ 0) rfl rfl (fun c1_ => absurd c1_ (by decide)) (fun c1_ => ?_)
  refine pw_blk hT 1 (S' := (13, [some (pvI 4), some (pvI 1), some (pvI 4), some (pvI 0), none], [pvI 4], M)) rfl ⟨trivial, trivial⟩ ?_
  refine pw_if hT (c := 4 < 0) rfl rfl (fun c2_ => absurd c2_ (by decide)) (fun c2_ => ?_)
  refine pw_blk hT 7 (S' := (25, [some (pvI 4), some (pvI 1), some (pvI 4), some (pvI 0), some (pvI ((4 * 3) + 1))], [pvI ((4 * 3) + 1)], M)) rfl ⟨trivial, trivial, trivial, trivial, trivial, trivial, trivial, trivial⟩ ?_
  refine pw_if hT (c := ((4 * 3) + 1) < 0) rfl rfl (fun c3_ => absurd c3_ (by decide)) (fun c3_ => ?_)
  refine pw_blk hT 3 (S' := (34, [some (pvI 4), some (pvI 1), some (pvI 4), some (pvI 0), some (pvI ((4 * 3) + 1))], [pvI (Int32.ofNat (pvstab 1041).length), pvI ((4 * 3) + 1)], M)) rfl ⟨trivial, trivial, (by decide), trivial⟩ ?_
  refine pw_ic hT (c := (Int32.ofNat (pvstab 1041).length) ≤ ((4 * 3) + 1)) rfl rfl (fun c4_ => absurd c4_ (by decide)) (fun c4_ => ?_)
  refine pw_blk hT 3 (S' := (43, [some (pvI 4), some (pvI 1), some (pvI 4), some (pvI 0), some (pvI ((4 * 3) + 1))], [pvI ((pvstab 1041).getD (Int32.toNatClampNeg ((4 * 3) + 1)) 0)], M)) rfl ⟨trivial, trivial, ⟨by decide, (zr_in (n := 21) (show 13 ≤ Int32.toInt ((4 * 3) + 1) ∧ Int32.toInt ((4 * 3) + 1) ≤ 13 from (by decide)) (by decide) (by decide))⟩, trivial⟩ ?_
  refine pw_if hT (c := ((pvstab 1041).getD (Int32.toNatClampNeg ((4 * 3) + 1)) 0) = 0) rfl rfl (fun c5_ => absurd c5_ (by decide)) (fun c5_ => ?_)
  refine pw_blk hT 3 (S' := (52, [some (pvI 4), some (pvI 1), some (pvI 4), some (pvI 0), some (pvI ((4 * 3) + 1))], [pvI ((pvstab 1041).getD (Int32.toNatClampNeg ((4 * 3) + 1)) 0)], M)) rfl ⟨trivial, trivial, ⟨by decide, (zr_in (n := 21) (show 13 ≤ Int32.toInt ((4 * 3) + 1) ∧ Int32.toInt ((4 * 3) + 1) ≤ 13 from (by decide)) (by decide) (by decide))⟩, trivial⟩ ?_
  exact pw_ret hT rfl (r := some (pvI ((pvstab 1041).getD (Int32.toNatClampNeg ((4 * 3) + 1)) 0))) (M' := M) ⟨rfl, rfl⟩ ⟨rfl, rfl⟩
set_option maxHeartbeats 4000000 in
set_option maxRecDepth 10000 in
theorem sf_X3_above_4 (M : pvM) (hok : pvOk M) (d : Nat) : PW 131 d (0, [some (pvI 4)], [], M) (fun r X => r = some (pvI (((pvstab 1040).getD (Int32.toNatClampNeg 4) 0))) ∧ X = M) := by
  have hT : pvdom 131 = pvD_131 := rfl
  refine pw_blk hT 1 (S' := (1, [some (pvI 4)], [pvI 4], M)) rfl ⟨trivial, trivial⟩ ?_
  refine pw_if hT (c := 4 < 0) rfl rfl (fun c1_ => absurd c1_ (by decide)) (fun c1_ => ?_)
  refine pw_blk hT 3 (S' := (9, [some (pvI 4)], [pvI (Int32.ofNat (pvstab 1040).length), pvI 4], M)) rfl ⟨trivial, trivial, (by decide), trivial⟩ ?_
  refine pw_ic hT (c := 4 < (Int32.ofNat (pvstab 1040).length)) rfl rfl (fun c2_ => ?_) (fun c2_ => absurd (by decide) c2_)
  refine pw_blk hT 3 (S' := (21, [some (pvI 4)], [pvI ((pvstab 1040).getD (Int32.toNatClampNeg 4) 0)], M)) rfl ⟨trivial, trivial, ⟨by decide, (zr_in (n := 7) (show 4 ≤ Int32.toInt 4 ∧ Int32.toInt 4 ≤ 4 from (by decide)) (by decide) (by decide))⟩, trivial⟩ ?_
  exact pw_ret hT rfl (r := some (pvI ((pvstab 1040).getD (Int32.toNatClampNeg 4) 0))) (M' := M) ⟨rfl, rfl⟩ ⟨rfl, rfl⟩
set_option maxHeartbeats 4000000 in
set_option maxRecDepth 10000 in
theorem sf_X0_bodyFrom_4_2 (M : pvM) (hok : pvOk M) (d : Nat) : PW 1 d (0, [some (pvI 4), some (pvI 2), none, none, none], [], M) (fun r X => r = some (pvI (((pvstab 1041).getD (Int32.toNatClampNeg ((0 * 3) + 2)) 0))) ∧ X = M) := by
  have hT : pvdom 1 = pvD_1 := rfl
  refine pw_blk hT 4 (S' := (4, [some (pvI 4), some (pvI 2), some (pvI 4), some (pvI 0), none], [], M)) rfl ⟨trivial, trivial, trivial, trivial, trivial⟩ ?_
  refine pw_blk hT 3 (S' := (9, [some (pvI 4), some (pvI 2), some (pvI 4), some (pvI 0), none], [pvI (Int32.ofNat (pvstab 1041).length), pvI 0], M)) rfl ⟨trivial, trivial, (by decide), trivial⟩ ?_
  refine pw_ic hT (c := (Int32.ofNat (pvstab 1041).length) ≤ 0) rfl rfl (fun c1_ => absurd c1_ (by decide)) (fun c1_ => ?_)
  refine pw_blk hT 1 (S' := (13, [some (pvI 4), some (pvI 2), some (pvI 4), some (pvI 0), none], [pvI 4], M)) rfl ⟨trivial, trivial⟩ ?_
  refine pw_if hT (c := 4 < 0) rfl rfl (fun c2_ => absurd c2_ (by decide)) (fun c2_ => ?_)
  refine pw_blk hT 7 (S' := (25, [some (pvI 4), some (pvI 2), some (pvI 4), some (pvI 0), some (pvI ((4 * 3) + 2))], [pvI ((4 * 3) + 2)], M)) rfl ⟨trivial, trivial, trivial, trivial, trivial, trivial, trivial, trivial⟩ ?_
  refine pw_if hT (c := ((4 * 3) + 2) < 0) rfl rfl (fun c3_ => absurd c3_ (by decide)) (fun c3_ => ?_)
  refine pw_blk hT 3 (S' := (34, [some (pvI 4), some (pvI 2), some (pvI 4), some (pvI 0), some (pvI ((4 * 3) + 2))], [pvI (Int32.ofNat (pvstab 1041).length), pvI ((4 * 3) + 2)], M)) rfl ⟨trivial, trivial, (by decide), trivial⟩ ?_
  refine pw_ic hT (c := (Int32.ofNat (pvstab 1041).length) ≤ ((4 * 3) + 2)) rfl rfl (fun c4_ => absurd c4_ (by decide)) (fun c4_ => ?_)
  refine pw_blk hT 3 (S' := (43, [some (pvI 4), some (pvI 2), some (pvI 4), some (pvI 0), some (pvI ((4 * 3) + 2))], [pvI ((pvstab 1041).getD (Int32.toNatClampNeg ((4 * 3) + 2)) 0)], M)) rfl ⟨trivial, trivial, ⟨by decide, (zr_in (n := 21) (show 14 ≤ Int32.toInt ((4 * 3) + 2) ∧ Int32.toInt ((4 * 3) + 2) ≤ 14 from (by decide)) (by decide) (by decide))⟩, trivial⟩ ?_
  refine pw_if hT (c := ((pvstab 1041).getD (Int32.toNatClampNeg ((4 * 3) + 2)) 0) = 0) rfl rfl (fun c5_ => ?_) (fun c5_ => absurd (by decide) c5_)
  refine pw_blk hT 1 (S' := (54, [some (pvI 4), some (pvI 2), some (pvI 4), some (pvI 0), some (pvI ((4 * 3) + 2))], [pvI 4], M)) rfl ⟨trivial, trivial⟩ ?_
  refine pw_callT hT (as := [pvI 4]) (lo1 := [some (pvI 4)]) (d1 := d) (rest := []) rfl rfl rfl rfl rfl (fun h => absurd h (by decide)) (Nat.zero_le _) rfl rfl rfl (sf_X3_above_4 M hok d) ?_
  refine pw_eqI (show ((pvstab 1040).getD (Int32.toNatClampNeg 4) 0) = 1 from by decide) ?_
  show PW 1 d (57, [some (pvI 4), some (pvI 2), some (pvI 4), some (pvI 0), some (pvI ((4 * 3) + 2))], [pvI 1], M) _
  refine pw_blk hT 3 (S' := (4, [some (pvI 4), some (pvI 2), some (pvI 1), some (pvI (0 + 1)), some (pvI ((4 * 3) + 2))], [], M)) rfl ⟨trivial, trivial, trivial, trivial⟩ ?_
  refine pw_blk hT 3 (S' := (9, [some (pvI 4), some (pvI 2), some (pvI 1), some (pvI (0 + 1)), some (pvI ((4 * 3) + 2))], [pvI (Int32.ofNat (pvstab 1041).length), pvI (0 + 1)], M)) rfl ⟨trivial, trivial, (by decide), trivial⟩ ?_
  refine pw_ic hT (c := (Int32.ofNat (pvstab 1041).length) ≤ (0 + 1)) rfl rfl (fun c11_ => absurd c11_ (by decide)) (fun c11_ => ?_)
  refine pw_blk hT 1 (S' := (13, [some (pvI 4), some (pvI 2), some (pvI 1), some (pvI (0 + 1)), some (pvI ((4 * 3) + 2))], [pvI 1], M)) rfl ⟨trivial, trivial⟩ ?_
  refine pw_if hT (c := 1 < 0) rfl rfl (fun c12_ => absurd c12_ (by decide)) (fun c12_ => ?_)
  refine pw_blk hT 7 (S' := (25, [some (pvI 4), some (pvI 2), some (pvI 1), some (pvI (0 + 1)), some (pvI ((1 * 3) + 2))], [pvI ((1 * 3) + 2)], M)) rfl ⟨trivial, trivial, trivial, trivial, trivial, trivial, trivial, trivial⟩ ?_
  refine pw_if hT (c := ((1 * 3) + 2) < 0) rfl rfl (fun c13_ => absurd c13_ (by decide)) (fun c13_ => ?_)
  refine pw_blk hT 3 (S' := (34, [some (pvI 4), some (pvI 2), some (pvI 1), some (pvI (0 + 1)), some (pvI ((1 * 3) + 2))], [pvI (Int32.ofNat (pvstab 1041).length), pvI ((1 * 3) + 2)], M)) rfl ⟨trivial, trivial, (by decide), trivial⟩ ?_
  refine pw_ic hT (c := (Int32.ofNat (pvstab 1041).length) ≤ ((1 * 3) + 2)) rfl rfl (fun c14_ => absurd c14_ (by decide)) (fun c14_ => ?_)
  refine pw_blk hT 3 (S' := (43, [some (pvI 4), some (pvI 2), some (pvI 1), some (pvI (0 + 1)), some (pvI ((1 * 3) + 2))], [pvI ((pvstab 1041).getD (Int32.toNatClampNeg ((1 * 3) + 2)) 0)], M)) rfl ⟨trivial, trivial, ⟨by decide, (zr_in (n := 21) (show 5 ≤ Int32.toInt ((1 * 3) + 2) ∧ Int32.toInt ((1 * 3) + 2) ≤ 5 from (by decide)) (by decide) (by decide))⟩, trivial⟩ ?_
  refine pw_if hT (c := ((pvstab 1041).getD (Int32.toNatClampNeg ((1 * 3) + 2)) 0) = 0) rfl rfl (fun c15_ => ?_) (fun c15_ => absurd (by decide) c15_)
  refine pw_blk hT 1 (S' := (54, [some (pvI 4), some (pvI 2), some (pvI 1), some (pvI (0 + 1)), some (pvI ((1 * 3) + 2))], [pvI 1], M)) rfl ⟨trivial, trivial⟩ ?_
  refine pw_callT hT (as := [pvI 1]) (lo1 := [some (pvI 1)]) (d1 := d) (rest := []) rfl rfl rfl rfl rfl (fun h => absurd h (by decide)) (Nat.zero_le _) rfl rfl rfl (sf_X3_above_1 M hok d) ?_
  refine pw_eqI (show ((pvstab 1040).getD (Int32.toNatClampNeg 1) 0) = 0 from by decide) ?_
  show PW 1 d (57, [some (pvI 4), some (pvI 2), some (pvI 1), some (pvI (0 + 1)), some (pvI ((1 * 3) + 2))], [pvI 0], M) _
  refine pw_blk hT 3 (S' := (4, [some (pvI 4), some (pvI 2), some (pvI 0), some (pvI ((0 + 1) + 1)), some (pvI ((1 * 3) + 2))], [], M)) rfl ⟨trivial, trivial, trivial, trivial⟩ ?_
  refine pw_blk hT 3 (S' := (9, [some (pvI 4), some (pvI 2), some (pvI 0), some (pvI ((0 + 1) + 1)), some (pvI ((1 * 3) + 2))], [pvI (Int32.ofNat (pvstab 1041).length), pvI ((0 + 1) + 1)], M)) rfl ⟨trivial, trivial, (by decide), trivial⟩ ?_
  refine pw_ic hT (c := (Int32.ofNat (pvstab 1041).length) ≤ ((0 + 1) + 1)) rfl rfl (fun c21_ => absurd c21_ (by decide)) (fun c21_ => ?_)
  refine pw_blk hT 1 (S' := (13, [some (pvI 4), some (pvI 2), some (pvI 0), some (pvI ((0 + 1) + 1)), some (pvI ((1 * 3) + 2))], [pvI 0], M)) rfl ⟨trivial, trivial⟩ ?_
  refine pw_if hT (c := 0 < 0) rfl rfl (fun c22_ => absurd c22_ (by decide)) (fun c22_ => ?_)
  refine pw_blk hT 7 (S' := (25, [some (pvI 4), some (pvI 2), some (pvI 0), some (pvI ((0 + 1) + 1)), some (pvI ((0 * 3) + 2))], [pvI ((0 * 3) + 2)], M)) rfl ⟨trivial, trivial, trivial, trivial, trivial, trivial, trivial, trivial⟩ ?_
  refine pw_if hT (c := ((0 * 3) + 2) < 0) rfl rfl (fun c23_ => absurd c23_ (by decide)) (fun c23_ => ?_)
  refine pw_blk hT 3 (S' := (34, [some (pvI 4), some (pvI 2), some (pvI 0), some (pvI ((0 + 1) + 1)), some (pvI ((0 * 3) + 2))], [pvI (Int32.ofNat (pvstab 1041).length), pvI ((0 * 3) + 2)], M)) rfl ⟨trivial, trivial, (by decide), trivial⟩ ?_
  refine pw_ic hT (c := (Int32.ofNat (pvstab 1041).length) ≤ ((0 * 3) + 2)) rfl rfl (fun c24_ => absurd c24_ (by decide)) (fun c24_ => ?_)
  refine pw_blk hT 3 (S' := (43, [some (pvI 4), some (pvI 2), some (pvI 0), some (pvI ((0 + 1) + 1)), some (pvI ((0 * 3) + 2))], [pvI ((pvstab 1041).getD (Int32.toNatClampNeg ((0 * 3) + 2)) 0)], M)) rfl ⟨trivial, trivial, ⟨by decide, (zr_in (n := 21) (show 2 ≤ Int32.toInt ((0 * 3) + 2) ∧ Int32.toInt ((0 * 3) + 2) ≤ 2 from (by decide)) (by decide) (by decide))⟩, trivial⟩ ?_
  refine pw_if hT (c := ((pvstab 1041).getD (Int32.toNatClampNeg ((0 * 3) + 2)) 0) = 0) rfl rfl (fun c25_ => absurd c25_ (by decide)) (fun c25_ => ?_)
  refine pw_blk hT 3 (S' := (52, [some (pvI 4), some (pvI 2), some (pvI 0), some (pvI ((0 + 1) + 1)), some (pvI ((0 * 3) + 2))], [pvI ((pvstab 1041).getD (Int32.toNatClampNeg ((0 * 3) + 2)) 0)], M)) rfl ⟨trivial, trivial, ⟨by decide, (zr_in (n := 21) (show 2 ≤ Int32.toInt ((0 * 3) + 2) ∧ Int32.toInt ((0 * 3) + 2) ≤ 2 from (by decide)) (by decide) (by decide))⟩, trivial⟩ ?_
  exact pw_ret hT rfl (r := some (pvI ((pvstab 1041).getD (Int32.toNatClampNeg ((0 * 3) + 2)) 0))) (M' := M) ⟨rfl, rfl⟩ ⟨rfl, rfl⟩
set_option maxHeartbeats 4000000 in
set_option maxRecDepth 10000 in
theorem sf_X3_above_5 (M : pvM) (hok : pvOk M) (d : Nat) : PW 131 d (0, [some (pvI 5)], [], M) (fun r X => r = some (pvI (((pvstab 1040).getD (Int32.toNatClampNeg 5) 0))) ∧ X = M) := by
  have hT : pvdom 131 = pvD_131 := rfl
  refine pw_blk hT 1 (S' := (1, [some (pvI 5)], [pvI 5], M)) rfl ⟨trivial, trivial⟩ ?_
  refine pw_if hT (c := 5 < 0) rfl rfl (fun c1_ => absurd c1_ (by decide)) (fun c1_ => ?_)
  refine pw_blk hT 3 (S' := (9, [some (pvI 5)], [pvI (Int32.ofNat (pvstab 1040).length), pvI 5], M)) rfl ⟨trivial, trivial, (by decide), trivial⟩ ?_
  refine pw_ic hT (c := 5 < (Int32.ofNat (pvstab 1040).length)) rfl rfl (fun c2_ => ?_) (fun c2_ => absurd (by decide) c2_)
  refine pw_blk hT 3 (S' := (21, [some (pvI 5)], [pvI ((pvstab 1040).getD (Int32.toNatClampNeg 5) 0)], M)) rfl ⟨trivial, trivial, ⟨by decide, (zr_in (n := 7) (show 5 ≤ Int32.toInt 5 ∧ Int32.toInt 5 ≤ 5 from (by decide)) (by decide) (by decide))⟩, trivial⟩ ?_
  exact pw_ret hT rfl (r := some (pvI ((pvstab 1040).getD (Int32.toNatClampNeg 5) 0))) (M' := M) ⟨rfl, rfl⟩ ⟨rfl, rfl⟩
set_option maxHeartbeats 4000000 in
set_option maxRecDepth 10000 in
theorem sf_X0_bodyFrom_5_0 (M : pvM) (hok : pvOk M) (d : Nat) : PW 1 d (0, [some (pvI 5), some (pvI 0), none, none, none], [], M) (fun r X => r = some (pvI (((pvstab 1041).getD (Int32.toNatClampNeg ((2 * 3) + 0)) 0))) ∧ X = M) := by
  have hT : pvdom 1 = pvD_1 := rfl
  refine pw_blk hT 4 (S' := (4, [some (pvI 5), some (pvI 0), some (pvI 5), some (pvI 0), none], [], M)) rfl ⟨trivial, trivial, trivial, trivial, trivial⟩ ?_
  refine pw_blk hT 3 (S' := (9, [some (pvI 5), some (pvI 0), some (pvI 5), some (pvI 0), none], [pvI (Int32.ofNat (pvstab 1041).length), pvI 0], M)) rfl ⟨trivial, trivial, (by decide), trivial⟩ ?_
  refine pw_ic hT (c := (Int32.ofNat (pvstab 1041).length) ≤ 0) rfl rfl (fun c1_ => absurd c1_ (by decide)) (fun c1_ => ?_)
  refine pw_blk hT 1 (S' := (13, [some (pvI 5), some (pvI 0), some (pvI 5), some (pvI 0), none], [pvI 5], M)) rfl ⟨trivial, trivial⟩ ?_
  refine pw_if hT (c := 5 < 0) rfl rfl (fun c2_ => absurd c2_ (by decide)) (fun c2_ => ?_)
  refine pw_blk hT 7 (S' := (25, [some (pvI 5), some (pvI 0), some (pvI 5), some (pvI 0), some (pvI ((5 * 3) + 0))], [pvI ((5 * 3) + 0)], M)) rfl ⟨trivial, trivial, trivial, trivial, trivial, trivial, trivial, trivial⟩ ?_
  refine pw_if hT (c := ((5 * 3) + 0) < 0) rfl rfl (fun c3_ => absurd c3_ (by decide)) (fun c3_ => ?_)
  refine pw_blk hT 3 (S' := (34, [some (pvI 5), some (pvI 0), some (pvI 5), some (pvI 0), some (pvI ((5 * 3) + 0))], [pvI (Int32.ofNat (pvstab 1041).length), pvI ((5 * 3) + 0)], M)) rfl ⟨trivial, trivial, (by decide), trivial⟩ ?_
  refine pw_ic hT (c := (Int32.ofNat (pvstab 1041).length) ≤ ((5 * 3) + 0)) rfl rfl (fun c4_ => absurd c4_ (by decide)) (fun c4_ => ?_)
  refine pw_blk hT 3 (S' := (43, [some (pvI 5), some (pvI 0), some (pvI 5), some (pvI 0), some (pvI ((5 * 3) + 0))], [pvI ((pvstab 1041).getD (Int32.toNatClampNeg ((5 * 3) + 0)) 0)], M)) rfl ⟨trivial, trivial, ⟨by decide, (zr_in (n := 21) (show 15 ≤ Int32.toInt ((5 * 3) + 0) ∧ Int32.toInt ((5 * 3) + 0) ≤ 15 from (by decide)) (by decide) (by decide))⟩, trivial⟩ ?_
  refine pw_if hT (c := ((pvstab 1041).getD (Int32.toNatClampNeg ((5 * 3) + 0)) 0) = 0) rfl rfl (fun c5_ => ?_) (fun c5_ => absurd (by decide) c5_)
  refine pw_blk hT 1 (S' := (54, [some (pvI 5), some (pvI 0), some (pvI 5), some (pvI 0), some (pvI ((5 * 3) + 0))], [pvI 5], M)) rfl ⟨trivial, trivial⟩ ?_
  refine pw_callT hT (as := [pvI 5]) (lo1 := [some (pvI 5)]) (d1 := d) (rest := []) rfl rfl rfl rfl rfl (fun h => absurd h (by decide)) (Nat.zero_le _) rfl rfl rfl (sf_X3_above_5 M hok d) ?_
  refine pw_eqI (show ((pvstab 1040).getD (Int32.toNatClampNeg 5) 0) = 2 from by decide) ?_
  show PW 1 d (57, [some (pvI 5), some (pvI 0), some (pvI 5), some (pvI 0), some (pvI ((5 * 3) + 0))], [pvI 2], M) _
  refine pw_blk hT 3 (S' := (4, [some (pvI 5), some (pvI 0), some (pvI 2), some (pvI (0 + 1)), some (pvI ((5 * 3) + 0))], [], M)) rfl ⟨trivial, trivial, trivial, trivial⟩ ?_
  refine pw_blk hT 3 (S' := (9, [some (pvI 5), some (pvI 0), some (pvI 2), some (pvI (0 + 1)), some (pvI ((5 * 3) + 0))], [pvI (Int32.ofNat (pvstab 1041).length), pvI (0 + 1)], M)) rfl ⟨trivial, trivial, (by decide), trivial⟩ ?_
  refine pw_ic hT (c := (Int32.ofNat (pvstab 1041).length) ≤ (0 + 1)) rfl rfl (fun c11_ => absurd c11_ (by decide)) (fun c11_ => ?_)
  refine pw_blk hT 1 (S' := (13, [some (pvI 5), some (pvI 0), some (pvI 2), some (pvI (0 + 1)), some (pvI ((5 * 3) + 0))], [pvI 2], M)) rfl ⟨trivial, trivial⟩ ?_
  refine pw_if hT (c := 2 < 0) rfl rfl (fun c12_ => absurd c12_ (by decide)) (fun c12_ => ?_)
  refine pw_blk hT 7 (S' := (25, [some (pvI 5), some (pvI 0), some (pvI 2), some (pvI (0 + 1)), some (pvI ((2 * 3) + 0))], [pvI ((2 * 3) + 0)], M)) rfl ⟨trivial, trivial, trivial, trivial, trivial, trivial, trivial, trivial⟩ ?_
  refine pw_if hT (c := ((2 * 3) + 0) < 0) rfl rfl (fun c13_ => absurd c13_ (by decide)) (fun c13_ => ?_)
  refine pw_blk hT 3 (S' := (34, [some (pvI 5), some (pvI 0), some (pvI 2), some (pvI (0 + 1)), some (pvI ((2 * 3) + 0))], [pvI (Int32.ofNat (pvstab 1041).length), pvI ((2 * 3) + 0)], M)) rfl ⟨trivial, trivial, (by decide), trivial⟩ ?_
  refine pw_ic hT (c := (Int32.ofNat (pvstab 1041).length) ≤ ((2 * 3) + 0)) rfl rfl (fun c14_ => absurd c14_ (by decide)) (fun c14_ => ?_)
  refine pw_blk hT 3 (S' := (43, [some (pvI 5), some (pvI 0), some (pvI 2), some (pvI (0 + 1)), some (pvI ((2 * 3) + 0))], [pvI ((pvstab 1041).getD (Int32.toNatClampNeg ((2 * 3) + 0)) 0)], M)) rfl ⟨trivial, trivial, ⟨by decide, (zr_in (n := 21) (show 6 ≤ Int32.toInt ((2 * 3) + 0) ∧ Int32.toInt ((2 * 3) + 0) ≤ 6 from (by decide)) (by decide) (by decide))⟩, trivial⟩ ?_
  refine pw_if hT (c := ((pvstab 1041).getD (Int32.toNatClampNeg ((2 * 3) + 0)) 0) = 0) rfl rfl (fun c15_ => absurd c15_ (by decide)) (fun c15_ => ?_)
  refine pw_blk hT 3 (S' := (52, [some (pvI 5), some (pvI 0), some (pvI 2), some (pvI (0 + 1)), some (pvI ((2 * 3) + 0))], [pvI ((pvstab 1041).getD (Int32.toNatClampNeg ((2 * 3) + 0)) 0)], M)) rfl ⟨trivial, trivial, ⟨by decide, (zr_in (n := 21) (show 6 ≤ Int32.toInt ((2 * 3) + 0) ∧ Int32.toInt ((2 * 3) + 0) ≤ 6 from (by decide)) (by decide) (by decide))⟩, trivial⟩ ?_
  exact pw_ret hT rfl (r := some (pvI ((pvstab 1041).getD (Int32.toNatClampNeg ((2 * 3) + 0)) 0))) (M' := M) ⟨rfl, rfl⟩ ⟨rfl, rfl⟩
set_option maxHeartbeats 4000000 in
set_option maxRecDepth 10000 in
theorem sf_X0_bodyFrom_5_1 (M : pvM) (hok : pvOk M) (d : Nat) : PW 1 d (0, [some (pvI 5), some (pvI 1), none, none, none], [], M) (fun r X => r = some (pvI (((pvstab 1041).getD (Int32.toNatClampNeg ((0 * 3) + 1)) 0))) ∧ X = M) := by
  have hT : pvdom 1 = pvD_1 := rfl
  refine pw_blk hT 4 (S' := (4, [some (pvI 5), some (pvI 1), some (pvI 5), some (pvI 0), none], [], M)) rfl ⟨trivial, trivial, trivial, trivial, trivial⟩ ?_
  refine pw_blk hT 3 (S' := (9, [some (pvI 5), some (pvI 1), some (pvI 5), some (pvI 0), none], [pvI (Int32.ofNat (pvstab 1041).length), pvI 0], M)) rfl ⟨trivial, trivial, (by decide), trivial⟩ ?_
  refine pw_ic hT (c := (Int32.ofNat (pvstab 1041).length) ≤ 0) rfl rfl (fun c1_ => absurd c1_ (by decide)) (fun c1_ => ?_)
  refine pw_blk hT 1 (S' := (13, [some (pvI 5), some (pvI 1), some (pvI 5), some (pvI 0), none], [pvI 5], M)) rfl ⟨trivial, trivial⟩ ?_
  refine pw_if hT (c := 5 < 0) rfl rfl (fun c2_ => absurd c2_ (by decide)) (fun c2_ => ?_)
  refine pw_blk hT 7 (S' := (25, [some (pvI 5), some (pvI 1), some (pvI 5), some (pvI 0), some (pvI ((5 * 3) + 1))], [pvI ((5 * 3) + 1)], M)) rfl ⟨trivial, trivial, trivial, trivial, trivial, trivial, trivial, trivial⟩ ?_
  refine pw_if hT (c := ((5 * 3) + 1) < 0) rfl rfl (fun c3_ => absurd c3_ (by decide)) (fun c3_ => ?_)
  refine pw_blk hT 3 (S' := (34, [some (pvI 5), some (pvI 1), some (pvI 5), some (pvI 0), some (pvI ((5 * 3) + 1))], [pvI (Int32.ofNat (pvstab 1041).length), pvI ((5 * 3) + 1)], M)) rfl ⟨trivial, trivial, (by decide), trivial⟩ ?_
  refine pw_ic hT (c := (Int32.ofNat (pvstab 1041).length) ≤ ((5 * 3) + 1)) rfl rfl (fun c4_ => absurd c4_ (by decide)) (fun c4_ => ?_)
  refine pw_blk hT 3 (S' := (43, [some (pvI 5), some (pvI 1), some (pvI 5), some (pvI 0), some (pvI ((5 * 3) + 1))], [pvI ((pvstab 1041).getD (Int32.toNatClampNeg ((5 * 3) + 1)) 0)], M)) rfl ⟨trivial, trivial, ⟨by decide, (zr_in (n := 21) (show 16 ≤ Int32.toInt ((5 * 3) + 1) ∧ Int32.toInt ((5 * 3) + 1) ≤ 16 from (by decide)) (by decide) (by decide))⟩, trivial⟩ ?_
  refine pw_if hT (c := ((pvstab 1041).getD (Int32.toNatClampNeg ((5 * 3) + 1)) 0) = 0) rfl rfl (fun c5_ => ?_) (fun c5_ => absurd (by decide) c5_)
  refine pw_blk hT 1 (S' := (54, [some (pvI 5), some (pvI 1), some (pvI 5), some (pvI 0), some (pvI ((5 * 3) + 1))], [pvI 5], M)) rfl ⟨trivial, trivial⟩ ?_
  refine pw_callT hT (as := [pvI 5]) (lo1 := [some (pvI 5)]) (d1 := d) (rest := []) rfl rfl rfl rfl rfl (fun h => absurd h (by decide)) (Nat.zero_le _) rfl rfl rfl (sf_X3_above_5 M hok d) ?_
  refine pw_eqI (show ((pvstab 1040).getD (Int32.toNatClampNeg 5) 0) = 2 from by decide) ?_
  show PW 1 d (57, [some (pvI 5), some (pvI 1), some (pvI 5), some (pvI 0), some (pvI ((5 * 3) + 1))], [pvI 2], M) _
  refine pw_blk hT 3 (S' := (4, [some (pvI 5), some (pvI 1), some (pvI 2), some (pvI (0 + 1)), some (pvI ((5 * 3) + 1))], [], M)) rfl ⟨trivial, trivial, trivial, trivial⟩ ?_
  refine pw_blk hT 3 (S' := (9, [some (pvI 5), some (pvI 1), some (pvI 2), some (pvI (0 + 1)), some (pvI ((5 * 3) + 1))], [pvI (Int32.ofNat (pvstab 1041).length), pvI (0 + 1)], M)) rfl ⟨trivial, trivial, (by decide), trivial⟩ ?_
  refine pw_ic hT (c := (Int32.ofNat (pvstab 1041).length) ≤ (0 + 1)) rfl rfl (fun c11_ => absurd c11_ (by decide)) (fun c11_ => ?_)
  refine pw_blk hT 1 (S' := (13, [some (pvI 5), some (pvI 1), some (pvI 2), some (pvI (0 + 1)), some (pvI ((5 * 3) + 1))], [pvI 2], M)) rfl ⟨trivial, trivial⟩ ?_
  refine pw_if hT (c := 2 < 0) rfl rfl (fun c12_ => absurd c12_ (by decide)) (fun c12_ => ?_)
  refine pw_blk hT 7 (S' := (25, [some (pvI 5), some (pvI 1), some (pvI 2), some (pvI (0 + 1)), some (pvI ((2 * 3) + 1))], [pvI ((2 * 3) + 1)], M)) rfl ⟨trivial, trivial, trivial, trivial, trivial, trivial, trivial, trivial⟩ ?_
  refine pw_if hT (c := ((2 * 3) + 1) < 0) rfl rfl (fun c13_ => absurd c13_ (by decide)) (fun c13_ => ?_)
  refine pw_blk hT 3 (S' := (34, [some (pvI 5), some (pvI 1), some (pvI 2), some (pvI (0 + 1)), some (pvI ((2 * 3) + 1))], [pvI (Int32.ofNat (pvstab 1041).length), pvI ((2 * 3) + 1)], M)) rfl ⟨trivial, trivial, (by decide), trivial⟩ ?_
  refine pw_ic hT (c := (Int32.ofNat (pvstab 1041).length) ≤ ((2 * 3) + 1)) rfl rfl (fun c14_ => absurd c14_ (by decide)) (fun c14_ => ?_)
  refine pw_blk hT 3 (S' := (43, [some (pvI 5), some (pvI 1), some (pvI 2), some (pvI (0 + 1)), some (pvI ((2 * 3) + 1))], [pvI ((pvstab 1041).getD (Int32.toNatClampNeg ((2 * 3) + 1)) 0)], M)) rfl ⟨trivial, trivial, ⟨by decide, (zr_in (n := 21) (show 7 ≤ Int32.toInt ((2 * 3) + 1) ∧ Int32.toInt ((2 * 3) + 1) ≤ 7 from (by decide)) (by decide) (by decide))⟩, trivial⟩ ?_
  refine pw_if hT (c := ((pvstab 1041).getD (Int32.toNatClampNeg ((2 * 3) + 1)) 0) = 0) rfl rfl (fun c15_ => ?_) (fun c15_ => absurd (by decide) c15_)
  refine pw_blk hT 1 (S' := (54, [some (pvI 5), some (pvI 1), some (pvI 2), some (pvI (0 + 1)), some (pvI ((2 * 3) + 1))], [pvI 2], M)) rfl ⟨trivial, trivial⟩ ?_
  refine pw_callT hT (as := [pvI 2]) (lo1 := [some (pvI 2)]) (d1 := d) (rest := []) rfl rfl rfl rfl rfl (fun h => absurd h (by decide)) (Nat.zero_le _) rfl rfl rfl (sf_X3_above_2 M hok d) ?_
  refine pw_eqI (show ((pvstab 1040).getD (Int32.toNatClampNeg 2) 0) = 0 from by decide) ?_
  show PW 1 d (57, [some (pvI 5), some (pvI 1), some (pvI 2), some (pvI (0 + 1)), some (pvI ((2 * 3) + 1))], [pvI 0], M) _
  refine pw_blk hT 3 (S' := (4, [some (pvI 5), some (pvI 1), some (pvI 0), some (pvI ((0 + 1) + 1)), some (pvI ((2 * 3) + 1))], [], M)) rfl ⟨trivial, trivial, trivial, trivial⟩ ?_
  refine pw_blk hT 3 (S' := (9, [some (pvI 5), some (pvI 1), some (pvI 0), some (pvI ((0 + 1) + 1)), some (pvI ((2 * 3) + 1))], [pvI (Int32.ofNat (pvstab 1041).length), pvI ((0 + 1) + 1)], M)) rfl ⟨trivial, trivial, (by decide), trivial⟩ ?_
  refine pw_ic hT (c := (Int32.ofNat (pvstab 1041).length) ≤ ((0 + 1) + 1)) rfl rfl (fun c21_ => absurd c21_ (by decide)) (fun c21_ => ?_)
  refine pw_blk hT 1 (S' := (13, [some (pvI 5), some (pvI 1), some (pvI 0), some (pvI ((0 + 1) + 1)), some (pvI ((2 * 3) + 1))], [pvI 0], M)) rfl ⟨trivial, trivial⟩ ?_
  refine pw_if hT (c := 0 < 0) rfl rfl (fun c22_ => absurd c22_ (by decide)) (fun c22_ => ?_)
  refine pw_blk hT 7 (S' := (25, [some (pvI 5), some (pvI 1), some (pvI 0), some (pvI ((0 + 1) + 1)), some (pvI ((0 * 3) + 1))], [pvI ((0 * 3) + 1)], M)) rfl ⟨trivial, trivial, trivial, trivial, trivial, trivial, trivial, trivial⟩ ?_
  refine pw_if hT (c := ((0 * 3) + 1) < 0) rfl rfl (fun c23_ => absurd c23_ (by decide)) (fun c23_ => ?_)
  refine pw_blk hT 3 (S' := (34, [some (pvI 5), some (pvI 1), some (pvI 0), some (pvI ((0 + 1) + 1)), some (pvI ((0 * 3) + 1))], [pvI (Int32.ofNat (pvstab 1041).length), pvI ((0 * 3) + 1)], M)) rfl ⟨trivial, trivial, (by decide), trivial⟩ ?_
  refine pw_ic hT (c := (Int32.ofNat (pvstab 1041).length) ≤ ((0 * 3) + 1)) rfl rfl (fun c24_ => absurd c24_ (by decide)) (fun c24_ => ?_)
  refine pw_blk hT 3 (S' := (43, [some (pvI 5), some (pvI 1), some (pvI 0), some (pvI ((0 + 1) + 1)), some (pvI ((0 * 3) + 1))], [pvI ((pvstab 1041).getD (Int32.toNatClampNeg ((0 * 3) + 1)) 0)], M)) rfl ⟨trivial, trivial, ⟨by decide, (zr_in (n := 21) (show 1 ≤ Int32.toInt ((0 * 3) + 1) ∧ Int32.toInt ((0 * 3) + 1) ≤ 1 from (by decide)) (by decide) (by decide))⟩, trivial⟩ ?_
  refine pw_if hT (c := ((pvstab 1041).getD (Int32.toNatClampNeg ((0 * 3) + 1)) 0) = 0) rfl rfl (fun c25_ => absurd c25_ (by decide)) (fun c25_ => ?_)
  refine pw_blk hT 3 (S' := (52, [some (pvI 5), some (pvI 1), some (pvI 0), some (pvI ((0 + 1) + 1)), some (pvI ((0 * 3) + 1))], [pvI ((pvstab 1041).getD (Int32.toNatClampNeg ((0 * 3) + 1)) 0)], M)) rfl ⟨trivial, trivial, ⟨by decide, (zr_in (n := 21) (show 1 ≤ Int32.toInt ((0 * 3) + 1) ∧ Int32.toInt ((0 * 3) + 1) ≤ 1 from (by decide)) (by decide) (by decide))⟩, trivial⟩ ?_
  exact pw_ret hT rfl (r := some (pvI ((pvstab 1041).getD (Int32.toNatClampNeg ((0 * 3) + 1)) 0))) (M' := M) ⟨rfl, rfl⟩ ⟨rfl, rfl⟩
set_option maxHeartbeats 4000000 in
set_option maxRecDepth 10000 in
theorem sf_X0_bodyFrom_5_2 (M : pvM) (hok : pvOk M) (d : Nat) : PW 1 d (0, [some (pvI 5), some (pvI 2), none, none, none], [], M) (fun r X => r = some (pvI (((pvstab 1041).getD (Int32.toNatClampNeg ((5 * 3) + 2)) 0))) ∧ X = M) := by
  have hT : pvdom 1 = pvD_1 := rfl
  refine pw_blk hT 4 (S' := (4, [some (pvI 5), some (pvI 2), some (pvI 5), some (pvI 0), none], [], M)) rfl ⟨trivial, trivial, trivial, trivial, trivial⟩ ?_
  refine pw_blk hT 3 (S' := (9, [some (pvI 5), some (pvI 2), some (pvI 5), some (pvI 0), none], [pvI (Int32.ofNat (pvstab 1041).length), pvI 0], M)) rfl ⟨trivial, trivial, (by decide), trivial⟩ ?_
  refine pw_ic hT (c := (Int32.ofNat (pvstab 1041).length) ≤ 0) rfl rfl (fun c1_ => absurd c1_ (by decide)) (fun c1_ => ?_)
  refine pw_blk hT 1 (S' := (13, [some (pvI 5), some (pvI 2), some (pvI 5), some (pvI 0), none], [pvI 5], M)) rfl ⟨trivial, trivial⟩ ?_
  refine pw_if hT (c := 5 < 0) rfl rfl (fun c2_ => absurd c2_ (by decide)) (fun c2_ => ?_)
  refine pw_blk hT 7 (S' := (25, [some (pvI 5), some (pvI 2), some (pvI 5), some (pvI 0), some (pvI ((5 * 3) + 2))], [pvI ((5 * 3) + 2)], M)) rfl ⟨trivial, trivial, trivial, trivial, trivial, trivial, trivial, trivial⟩ ?_
  refine pw_if hT (c := ((5 * 3) + 2) < 0) rfl rfl (fun c3_ => absurd c3_ (by decide)) (fun c3_ => ?_)
  refine pw_blk hT 3 (S' := (34, [some (pvI 5), some (pvI 2), some (pvI 5), some (pvI 0), some (pvI ((5 * 3) + 2))], [pvI (Int32.ofNat (pvstab 1041).length), pvI ((5 * 3) + 2)], M)) rfl ⟨trivial, trivial, (by decide), trivial⟩ ?_
  refine pw_ic hT (c := (Int32.ofNat (pvstab 1041).length) ≤ ((5 * 3) + 2)) rfl rfl (fun c4_ => absurd c4_ (by decide)) (fun c4_ => ?_)
  refine pw_blk hT 3 (S' := (43, [some (pvI 5), some (pvI 2), some (pvI 5), some (pvI 0), some (pvI ((5 * 3) + 2))], [pvI ((pvstab 1041).getD (Int32.toNatClampNeg ((5 * 3) + 2)) 0)], M)) rfl ⟨trivial, trivial, ⟨by decide, (zr_in (n := 21) (show 17 ≤ Int32.toInt ((5 * 3) + 2) ∧ Int32.toInt ((5 * 3) + 2) ≤ 17 from (by decide)) (by decide) (by decide))⟩, trivial⟩ ?_
  refine pw_if hT (c := ((pvstab 1041).getD (Int32.toNatClampNeg ((5 * 3) + 2)) 0) = 0) rfl rfl (fun c5_ => absurd c5_ (by decide)) (fun c5_ => ?_)
  refine pw_blk hT 3 (S' := (52, [some (pvI 5), some (pvI 2), some (pvI 5), some (pvI 0), some (pvI ((5 * 3) + 2))], [pvI ((pvstab 1041).getD (Int32.toNatClampNeg ((5 * 3) + 2)) 0)], M)) rfl ⟨trivial, trivial, ⟨by decide, (zr_in (n := 21) (show 17 ≤ Int32.toInt ((5 * 3) + 2) ∧ Int32.toInt ((5 * 3) + 2) ≤ 17 from (by decide)) (by decide) (by decide))⟩, trivial⟩ ?_
  exact pw_ret hT rfl (r := some (pvI ((pvstab 1041).getD (Int32.toNatClampNeg ((5 * 3) + 2)) 0))) (M' := M) ⟨rfl, rfl⟩ ⟨rfl, rfl⟩
set_option maxHeartbeats 4000000 in
set_option maxRecDepth 10000 in
theorem sf_X0_bodyFrom_6_0 (M : pvM) (hok : pvOk M) (d : Nat) : PW 1 d (0, [some (pvI 6), some (pvI 0), none, none, none], [], M) (fun r X => r = some (pvI (((pvstab 1041).getD (Int32.toNatClampNeg ((6 * 3) + 0)) 0))) ∧ X = M) := by
  have hT : pvdom 1 = pvD_1 := rfl
  refine pw_blk hT 4 (S' := (4, [some (pvI 6), some (pvI 0), some (pvI 6), some (pvI 0), none], [], M)) rfl ⟨trivial, trivial, trivial, trivial, trivial⟩ ?_
  refine pw_blk hT 3 (S' := (9, [some (pvI 6), some (pvI 0), some (pvI 6), some (pvI 0), none], [pvI (Int32.ofNat (pvstab 1041).length), pvI 0], M)) rfl ⟨trivial, trivial, (by decide), trivial⟩ ?_
  refine pw_ic hT (c := (Int32.ofNat (pvstab 1041).length) ≤ 0) rfl rfl (fun c1_ => absurd c1_ (by decide)) (fun c1_ => ?_)
  refine pw_blk hT 1 (S' := (13, [some (pvI 6), some (pvI 0), some (pvI 6), some (pvI 0), none], [pvI 6], M)) rfl ⟨trivial, trivial⟩ ?_
  refine pw_if hT (c := 6 < 0) rfl rfl (fun c2_ => absurd c2_ (by decide)) (fun c2_ => ?_)
  refine pw_blk hT 7 (S' := (25, [some (pvI 6), some (pvI 0), some (pvI 6), some (pvI 0), some (pvI ((6 * 3) + 0))], [pvI ((6 * 3) + 0)], M)) rfl ⟨trivial, trivial, trivial, trivial, trivial, trivial, trivial, trivial⟩ ?_
  refine pw_if hT (c := ((6 * 3) + 0) < 0) rfl rfl (fun c3_ => absurd c3_ (by decide)) (fun c3_ => ?_)
  refine pw_blk hT 3 (S' := (34, [some (pvI 6), some (pvI 0), some (pvI 6), some (pvI 0), some (pvI ((6 * 3) + 0))], [pvI (Int32.ofNat (pvstab 1041).length), pvI ((6 * 3) + 0)], M)) rfl ⟨trivial, trivial, (by decide), trivial⟩ ?_
  refine pw_ic hT (c := (Int32.ofNat (pvstab 1041).length) ≤ ((6 * 3) + 0)) rfl rfl (fun c4_ => absurd c4_ (by decide)) (fun c4_ => ?_)
  refine pw_blk hT 3 (S' := (43, [some (pvI 6), some (pvI 0), some (pvI 6), some (pvI 0), some (pvI ((6 * 3) + 0))], [pvI ((pvstab 1041).getD (Int32.toNatClampNeg ((6 * 3) + 0)) 0)], M)) rfl ⟨trivial, trivial, ⟨by decide, (zr_in (n := 21) (show 18 ≤ Int32.toInt ((6 * 3) + 0) ∧ Int32.toInt ((6 * 3) + 0) ≤ 18 from (by decide)) (by decide) (by decide))⟩, trivial⟩ ?_
  refine pw_if hT (c := ((pvstab 1041).getD (Int32.toNatClampNeg ((6 * 3) + 0)) 0) = 0) rfl rfl (fun c5_ => absurd c5_ (by decide)) (fun c5_ => ?_)
  refine pw_blk hT 3 (S' := (52, [some (pvI 6), some (pvI 0), some (pvI 6), some (pvI 0), some (pvI ((6 * 3) + 0))], [pvI ((pvstab 1041).getD (Int32.toNatClampNeg ((6 * 3) + 0)) 0)], M)) rfl ⟨trivial, trivial, ⟨by decide, (zr_in (n := 21) (show 18 ≤ Int32.toInt ((6 * 3) + 0) ∧ Int32.toInt ((6 * 3) + 0) ≤ 18 from (by decide)) (by decide) (by decide))⟩, trivial⟩ ?_
  exact pw_ret hT rfl (r := some (pvI ((pvstab 1041).getD (Int32.toNatClampNeg ((6 * 3) + 0)) 0))) (M' := M) ⟨rfl, rfl⟩ ⟨rfl, rfl⟩
set_option maxHeartbeats 4000000 in
set_option maxRecDepth 10000 in
theorem sf_X0_bodyFrom_6_1 (M : pvM) (hok : pvOk M) (d : Nat) : PW 1 d (0, [some (pvI 6), some (pvI 1), none, none, none], [], M) (fun r X => r = some (pvI (((pvstab 1041).getD (Int32.toNatClampNeg ((6 * 3) + 1)) 0))) ∧ X = M) := by
  have hT : pvdom 1 = pvD_1 := rfl
  refine pw_blk hT 4 (S' := (4, [some (pvI 6), some (pvI 1), some (pvI 6), some (pvI 0), none], [], M)) rfl ⟨trivial, trivial, trivial, trivial, trivial⟩ ?_
  refine pw_blk hT 3 (S' := (9, [some (pvI 6), some (pvI 1), some (pvI 6), some (pvI 0), none], [pvI (Int32.ofNat (pvstab 1041).length), pvI 0], M)) rfl ⟨trivial, trivial, (by decide), trivial⟩ ?_
  refine pw_ic hT (c := (Int32.ofNat (pvstab 1041).length) ≤ 0) rfl rfl (fun c1_ => absurd c1_ (by decide)) (fun c1_ => ?_)
  refine pw_blk hT 1 (S' := (13, [some (pvI 6), some (pvI 1), some (pvI 6), some (pvI 0), none], [pvI 6], M)) rfl ⟨trivial, trivial⟩ ?_
  refine pw_if hT (c := 6 < 0) rfl rfl (fun c2_ => absurd c2_ (by decide)) (fun c2_ => ?_)
  refine pw_blk hT 7 (S' := (25, [some (pvI 6), some (pvI 1), some (pvI 6), some (pvI 0), some (pvI ((6 * 3) + 1))], [pvI ((6 * 3) + 1)], M)) rfl ⟨trivial, trivial, trivial, trivial, trivial, trivial, trivial, trivial⟩ ?_
  refine pw_if hT (c := ((6 * 3) + 1) < 0) rfl rfl (fun c3_ => absurd c3_ (by decide)) (fun c3_ => ?_)
  refine pw_blk hT 3 (S' := (34, [some (pvI 6), some (pvI 1), some (pvI 6), some (pvI 0), some (pvI ((6 * 3) + 1))], [pvI (Int32.ofNat (pvstab 1041).length), pvI ((6 * 3) + 1)], M)) rfl ⟨trivial, trivial, (by decide), trivial⟩ ?_
  refine pw_ic hT (c := (Int32.ofNat (pvstab 1041).length) ≤ ((6 * 3) + 1)) rfl rfl (fun c4_ => absurd c4_ (by decide)) (fun c4_ => ?_)
  refine pw_blk hT 3 (S' := (43, [some (pvI 6), some (pvI 1), some (pvI 6), some (pvI 0), some (pvI ((6 * 3) + 1))], [pvI ((pvstab 1041).getD (Int32.toNatClampNeg ((6 * 3) + 1)) 0)], M)) rfl ⟨trivial, trivial, ⟨by decide, (zr_in (n := 21) (show 19 ≤ Int32.toInt ((6 * 3) + 1) ∧ Int32.toInt ((6 * 3) + 1) ≤ 19 from (by decide)) (by decide) (by decide))⟩, trivial⟩ ?_
  refine pw_if hT (c := ((pvstab 1041).getD (Int32.toNatClampNeg ((6 * 3) + 1)) 0) = 0) rfl rfl (fun c5_ => absurd c5_ (by decide)) (fun c5_ => ?_)
  refine pw_blk hT 3 (S' := (52, [some (pvI 6), some (pvI 1), some (pvI 6), some (pvI 0), some (pvI ((6 * 3) + 1))], [pvI ((pvstab 1041).getD (Int32.toNatClampNeg ((6 * 3) + 1)) 0)], M)) rfl ⟨trivial, trivial, ⟨by decide, (zr_in (n := 21) (show 19 ≤ Int32.toInt ((6 * 3) + 1) ∧ Int32.toInt ((6 * 3) + 1) ≤ 19 from (by decide)) (by decide) (by decide))⟩, trivial⟩ ?_
  exact pw_ret hT rfl (r := some (pvI ((pvstab 1041).getD (Int32.toNatClampNeg ((6 * 3) + 1)) 0))) (M' := M) ⟨rfl, rfl⟩ ⟨rfl, rfl⟩
set_option maxHeartbeats 4000000 in
set_option maxRecDepth 10000 in
theorem sf_X3_above_6 (M : pvM) (hok : pvOk M) (d : Nat) : PW 131 d (0, [some (pvI 6)], [], M) (fun r X => r = some (pvI (((pvstab 1040).getD (Int32.toNatClampNeg 6) 0))) ∧ X = M) := by
  have hT : pvdom 131 = pvD_131 := rfl
  refine pw_blk hT 1 (S' := (1, [some (pvI 6)], [pvI 6], M)) rfl ⟨trivial, trivial⟩ ?_
  refine pw_if hT (c := 6 < 0) rfl rfl (fun c1_ => absurd c1_ (by decide)) (fun c1_ => ?_)
  refine pw_blk hT 3 (S' := (9, [some (pvI 6)], [pvI (Int32.ofNat (pvstab 1040).length), pvI 6], M)) rfl ⟨trivial, trivial, (by decide), trivial⟩ ?_
  refine pw_ic hT (c := 6 < (Int32.ofNat (pvstab 1040).length)) rfl rfl (fun c2_ => ?_) (fun c2_ => absurd (by decide) c2_)
  refine pw_blk hT 3 (S' := (21, [some (pvI 6)], [pvI ((pvstab 1040).getD (Int32.toNatClampNeg 6) 0)], M)) rfl ⟨trivial, trivial, ⟨by decide, (zr_in (n := 7) (show 6 ≤ Int32.toInt 6 ∧ Int32.toInt 6 ≤ 6 from (by decide)) (by decide) (by decide))⟩, trivial⟩ ?_
  exact pw_ret hT rfl (r := some (pvI ((pvstab 1040).getD (Int32.toNatClampNeg 6) 0))) (M' := M) ⟨rfl, rfl⟩ ⟨rfl, rfl⟩
set_option maxHeartbeats 4000000 in
set_option maxRecDepth 10000 in
theorem sf_X0_bodyFrom_6_2 (M : pvM) (hok : pvOk M) (d : Nat) : PW 1 d (0, [some (pvI 6), some (pvI 2), none, none, none], [], M) (fun r X => r = some (pvI (((pvstab 1041).getD (Int32.toNatClampNeg ((3 * 3) + 2)) 0))) ∧ X = M) := by
  have hT : pvdom 1 = pvD_1 := rfl
  refine pw_blk hT 4 (S' := (4, [some (pvI 6), some (pvI 2), some (pvI 6), some (pvI 0), none], [], M)) rfl ⟨trivial, trivial, trivial, trivial, trivial⟩ ?_
  refine pw_blk hT 3 (S' := (9, [some (pvI 6), some (pvI 2), some (pvI 6), some (pvI 0), none], [pvI (Int32.ofNat (pvstab 1041).length), pvI 0], M)) rfl ⟨trivial, trivial, (by decide), trivial⟩ ?_
  refine pw_ic hT (c := (Int32.ofNat (pvstab 1041).length) ≤ 0) rfl rfl (fun c1_ => absurd c1_ (by decide)) (fun c1_ => ?_)
  refine pw_blk hT 1 (S' := (13, [some (pvI 6), some (pvI 2), some (pvI 6), some (pvI 0), none], [pvI 6], M)) rfl ⟨trivial, trivial⟩ ?_
  refine pw_if hT (c := 6 < 0) rfl rfl (fun c2_ => absurd c2_ (by decide)) (fun c2_ => ?_)
  refine pw_blk hT 7 (S' := (25, [some (pvI 6), some (pvI 2), some (pvI 6), some (pvI 0), some (pvI ((6 * 3) + 2))], [pvI ((6 * 3) + 2)], M)) rfl ⟨trivial, trivial, trivial, trivial, trivial, trivial, trivial, trivial⟩ ?_
  refine pw_if hT (c := ((6 * 3) + 2) < 0) rfl rfl (fun c3_ => absurd c3_ (by decide)) (fun c3_ => ?_)
  refine pw_blk hT 3 (S' := (34, [some (pvI 6), some (pvI 2), some (pvI 6), some (pvI 0), some (pvI ((6 * 3) + 2))], [pvI (Int32.ofNat (pvstab 1041).length), pvI ((6 * 3) + 2)], M)) rfl ⟨trivial, trivial, (by decide), trivial⟩ ?_
  refine pw_ic hT (c := (Int32.ofNat (pvstab 1041).length) ≤ ((6 * 3) + 2)) rfl rfl (fun c4_ => absurd c4_ (by decide)) (fun c4_ => ?_)
  refine pw_blk hT 3 (S' := (43, [some (pvI 6), some (pvI 2), some (pvI 6), some (pvI 0), some (pvI ((6 * 3) + 2))], [pvI ((pvstab 1041).getD (Int32.toNatClampNeg ((6 * 3) + 2)) 0)], M)) rfl ⟨trivial, trivial, ⟨by decide, (zr_in (n := 21) (show 20 ≤ Int32.toInt ((6 * 3) + 2) ∧ Int32.toInt ((6 * 3) + 2) ≤ 20 from (by decide)) (by decide) (by decide))⟩, trivial⟩ ?_
  refine pw_if hT (c := ((pvstab 1041).getD (Int32.toNatClampNeg ((6 * 3) + 2)) 0) = 0) rfl rfl (fun c5_ => ?_) (fun c5_ => absurd (by decide) c5_)
  refine pw_blk hT 1 (S' := (54, [some (pvI 6), some (pvI 2), some (pvI 6), some (pvI 0), some (pvI ((6 * 3) + 2))], [pvI 6], M)) rfl ⟨trivial, trivial⟩ ?_
  refine pw_callT hT (as := [pvI 6]) (lo1 := [some (pvI 6)]) (d1 := d) (rest := []) rfl rfl rfl rfl rfl (fun h => absurd h (by decide)) (Nat.zero_le _) rfl rfl rfl (sf_X3_above_6 M hok d) ?_
  refine pw_eqI (show ((pvstab 1040).getD (Int32.toNatClampNeg 6) 0) = 3 from by decide) ?_
  show PW 1 d (57, [some (pvI 6), some (pvI 2), some (pvI 6), some (pvI 0), some (pvI ((6 * 3) + 2))], [pvI 3], M) _
  refine pw_blk hT 3 (S' := (4, [some (pvI 6), some (pvI 2), some (pvI 3), some (pvI (0 + 1)), some (pvI ((6 * 3) + 2))], [], M)) rfl ⟨trivial, trivial, trivial, trivial⟩ ?_
  refine pw_blk hT 3 (S' := (9, [some (pvI 6), some (pvI 2), some (pvI 3), some (pvI (0 + 1)), some (pvI ((6 * 3) + 2))], [pvI (Int32.ofNat (pvstab 1041).length), pvI (0 + 1)], M)) rfl ⟨trivial, trivial, (by decide), trivial⟩ ?_
  refine pw_ic hT (c := (Int32.ofNat (pvstab 1041).length) ≤ (0 + 1)) rfl rfl (fun c11_ => absurd c11_ (by decide)) (fun c11_ => ?_)
  refine pw_blk hT 1 (S' := (13, [some (pvI 6), some (pvI 2), some (pvI 3), some (pvI (0 + 1)), some (pvI ((6 * 3) + 2))], [pvI 3], M)) rfl ⟨trivial, trivial⟩ ?_
  refine pw_if hT (c := 3 < 0) rfl rfl (fun c12_ => absurd c12_ (by decide)) (fun c12_ => ?_)
  refine pw_blk hT 7 (S' := (25, [some (pvI 6), some (pvI 2), some (pvI 3), some (pvI (0 + 1)), some (pvI ((3 * 3) + 2))], [pvI ((3 * 3) + 2)], M)) rfl ⟨trivial, trivial, trivial, trivial, trivial, trivial, trivial, trivial⟩ ?_
  refine pw_if hT (c := ((3 * 3) + 2) < 0) rfl rfl (fun c13_ => absurd c13_ (by decide)) (fun c13_ => ?_)
  refine pw_blk hT 3 (S' := (34, [some (pvI 6), some (pvI 2), some (pvI 3), some (pvI (0 + 1)), some (pvI ((3 * 3) + 2))], [pvI (Int32.ofNat (pvstab 1041).length), pvI ((3 * 3) + 2)], M)) rfl ⟨trivial, trivial, (by decide), trivial⟩ ?_
  refine pw_ic hT (c := (Int32.ofNat (pvstab 1041).length) ≤ ((3 * 3) + 2)) rfl rfl (fun c14_ => absurd c14_ (by decide)) (fun c14_ => ?_)
  refine pw_blk hT 3 (S' := (43, [some (pvI 6), some (pvI 2), some (pvI 3), some (pvI (0 + 1)), some (pvI ((3 * 3) + 2))], [pvI ((pvstab 1041).getD (Int32.toNatClampNeg ((3 * 3) + 2)) 0)], M)) rfl ⟨trivial, trivial, ⟨by decide, (zr_in (n := 21) (show 11 ≤ Int32.toInt ((3 * 3) + 2) ∧ Int32.toInt ((3 * 3) + 2) ≤ 11 from (by decide)) (by decide) (by decide))⟩, trivial⟩ ?_
  refine pw_if hT (c := ((pvstab 1041).getD (Int32.toNatClampNeg ((3 * 3) + 2)) 0) = 0) rfl rfl (fun c15_ => absurd c15_ (by decide)) (fun c15_ => ?_)
  refine pw_blk hT 3 (S' := (52, [some (pvI 6), some (pvI 2), some (pvI 3), some (pvI (0 + 1)), some (pvI ((3 * 3) + 2))], [pvI ((pvstab 1041).getD (Int32.toNatClampNeg ((3 * 3) + 2)) 0)], M)) rfl ⟨trivial, trivial, ⟨by decide, (zr_in (n := 21) (show 11 ≤ Int32.toInt ((3 * 3) + 2) ∧ Int32.toInt ((3 * 3) + 2) ≤ 11 from (by decide)) (by decide) (by decide))⟩, trivial⟩ ?_
  exact pw_ret hT rfl (r := some (pvI ((pvstab 1041).getD (Int32.toNatClampNeg ((3 * 3) + 2)) 0))) (M' := M) ⟨rfl, rfl⟩ ⟨rfl, rfl⟩
set_option maxHeartbeats 4000000 in
set_option maxRecDepth 10000 in
theorem sf_X6_isFull_100 (M : pvM) (hok : pvOk M) (d : Nat) : PW 154 d (0, [some (pvR 100)], [], M) (fun r X => r = some (pvI ((if (M.1 100 0) < (Int32.ofNat 7) then 0 else 1))) ∧ X = M) := by
  have hT : pvdom 154 = pvD_154 := rfl
  have b1_ : 0 ≤ Int32.toInt (M.1 100 0) ∧ Int32.toInt (M.1 100 0) ≤ 7 := pvok_r hok 100 0 rfl
  refine pw_blk hT 5 (S' := (9, [some (pvR 100)], [pvI (Int32.ofNat 7), pvI (M.1 100 0)], M)) rfl ⟨trivial, rfl, trivial, rfl, rfl, trivial⟩ ?_
  refine pw_ic hT (c := (M.1 100 0) < (Int32.ofNat 7)) rfl rfl (fun c2_ => ?_) (fun c2_ => ?_)
  · have b3_ : 0 ≤ Int32.toInt (M.1 100 0) ∧ Int32.toInt (M.1 100 0) ≤ 6 := zr_lt_l 6 c2_ b1_ (show 7 ≤ Int32.toInt (Int32.ofNat 7) ∧ Int32.toInt (Int32.ofNat 7) ≤ 7 from (by decide)) (by decide)
    refine pw_blk hT 1 (S' := (17, [some (pvR 100)], [pvI 0], M)) rfl ⟨trivial, trivial⟩ ?_
    exact pw_ret hT rfl (r := some (pvI 0)) (M' := M) ⟨Or.inl rfl, rfl, rfl⟩ ⟨(by rw [if_pos c2_]), rfl⟩
  · have b4_ : 7 ≤ Int32.toInt (M.1 100 0) ∧ Int32.toInt (M.1 100 0) ≤ 7 := zr_nlt_l 7 c2_ b1_ (show 7 ≤ Int32.toInt (Int32.ofNat 7) ∧ Int32.toInt (Int32.ofNat 7) ≤ 7 from (by decide)) (by decide)
    refine pw_blk hT 2 (S' := (17, [some (pvR 100)], [pvI 1], M)) rfl ⟨trivial, trivial, trivial⟩ ?_
    exact pw_ret hT rfl (r := some (pvI 1)) (M' := M) ⟨Or.inr rfl, rfl, rfl⟩ ⟨(by rw [if_neg c2_]), rfl⟩
set_option maxHeartbeats 4000000 in
set_option maxRecDepth 10000 in
theorem sf_X1_sumPlace_5_x_x (M : pvM) (hok : pvOk M) (n1 : Int32) (n2 : Int32) (hn1 : 0 ≤ Int32.toInt n1 ∧ Int32.toInt n1 ≤ 6) (d : Nat) : PW 120 d (0, [some (pvR 5), some (pvI n1), some (pvI n2)], [], M) (fun r X => (∃ x : Int32, r = some (pvI x) ∧ 0 ≤ Int32.toInt x ∧ Int32.toInt x ≤ 2799) ∧ X = M) := by
  have hT : pvdom 120 = pvD_120 := rfl
  have b1_ : 0 ≤ Int32.toInt (M.1 5 1) ∧ Int32.toInt (M.1 5 1) ≤ 3 := pvok_r hok 5 1 rfl
  have q2_ : Int32.toInt ((M.1 5 1) * 7) = 7 * Int32.toInt (M.1 5 1) := by have u0 : Int32.toInt 7 = 7 := (by decide); have u1 := b1_; have u2 := zmul (M.1 5 1) 7 (by rw [u0]; omega) (by rw [u0]; omega); rw [u0] at u2; omega
  have b3_ : 0 ≤ Int32.toInt ((M.1 5 1) * 7) ∧ Int32.toInt ((M.1 5 1) * 7) ≤ 21 := (by have u1 := b1_; omega)
  obtain ⟨q5_, b4_⟩ : (Int32.toInt (((M.1 5 1) * 7) + n1) = Int32.toInt ((M.1 5 1) * 7) + Int32.toInt n1) ∧ (0 ≤ Int32.toInt (((M.1 5 1) * 7) + n1) ∧ Int32.toInt (((M.1 5 1) * 7) + n1) ≤ 27) := zadd_r ((M.1 5 1) * 7) n1 0 27 b3_ hn1 (by decide) (by decide) (by decide) (by decide)
  have q6_ : Int32.toInt ((((M.1 5 1) * 7) + n1) * 100) = 100 * Int32.toInt (((M.1 5 1) * 7) + n1) := by have u0 : Int32.toInt 100 = 100 := (by decide); have u1 := b4_; have u2 := zmul (((M.1 5 1) * 7) + n1) 100 (by rw [u0]; omega) (by rw [u0]; omega); rw [u0] at u2; omega
  have b7_ : 0 ≤ Int32.toInt ((((M.1 5 1) * 7) + n1) * 100) ∧ Int32.toInt ((((M.1 5 1) * 7) + n1) * 100) ≤ 2700 := (by have u1 := b4_; omega)
  have q8_ : Int32.toInt (if 99 < n2 then 99 else n2) = min (Int32.toInt n2) (Int32.toInt 99) := pvmin n2 99
  have b9_ : (-2147483648) ≤ Int32.toInt (if 99 < n2 then 99 else n2) ∧ Int32.toInt (if 99 < n2 then 99 else n2) ≤ 99 := (by have u0 := (zbnd n2); have u1 := (show 99 ≤ Int32.toInt 99 ∧ Int32.toInt 99 ≤ 99 from (by decide)); omega)
  have q10_ : Int32.toInt (if 0 < (if 99 < n2 then 99 else n2) then (if 99 < n2 then 99 else n2) else 0) = max (Int32.toInt 0) (Int32.toInt (if 99 < n2 then 99 else n2)) := pvmax 0 (if 99 < n2 then 99 else n2)
  have b11_ : 0 ≤ Int32.toInt (if 0 < (if 99 < n2 then 99 else n2) then (if 99 < n2 then 99 else n2) else 0) ∧ Int32.toInt (if 0 < (if 99 < n2 then 99 else n2) then (if 99 < n2 then 99 else n2) else 0) ≤ 99 := (by have u0 := (show 0 ≤ Int32.toInt 0 ∧ Int32.toInt 0 ≤ 0 from (by decide)); have u1 := b9_; omega)
  obtain ⟨q13_, b12_⟩ : (Int32.toInt (((((M.1 5 1) * 7) + n1) * 100) + (if 0 < (if 99 < n2 then 99 else n2) then (if 99 < n2 then 99 else n2) else 0)) = Int32.toInt ((((M.1 5 1) * 7) + n1) * 100) + Int32.toInt (if 0 < (if 99 < n2 then 99 else n2) then (if 99 < n2 then 99 else n2) else 0)) ∧ (0 ≤ Int32.toInt (((((M.1 5 1) * 7) + n1) * 100) + (if 0 < (if 99 < n2 then 99 else n2) then (if 99 < n2 then 99 else n2) else 0)) ∧ Int32.toInt (((((M.1 5 1) * 7) + n1) * 100) + (if 0 < (if 99 < n2 then 99 else n2) then (if 99 < n2 then 99 else n2) else 0)) ≤ 2799) := zadd_r ((((M.1 5 1) * 7) + n1) * 100) (if 0 < (if 99 < n2 then 99 else n2) then (if 99 < n2 then 99 else n2) else 0) 0 2799 b7_ b11_ (by decide) (by decide) (by decide) (by decide)
  refine pw_blk hT 14 (S' := (23, [some (pvR 5), some (pvI n1), some (pvI n2)], [pvI (((((M.1 5 1) * 7) + n1) * 100) + (if 0 < (if 99 < n2 then 99 else n2) then (if 99 < n2 then 99 else n2) else 0))], M)) rfl ⟨trivial, rfl, trivial, trivial, trivial, trivial, trivial, trivial, trivial, trivial, trivial, (Nat.le_of_ble_eq_true rfl), (Nat.le_of_ble_eq_true rfl), trivial, trivial⟩ ?_
  exact pw_ret hT rfl (r := some (pvI (((((M.1 5 1) * 7) + n1) * 100) + (if 0 < (if 99 < n2 then 99 else n2) then (if 99 < n2 then 99 else n2) else 0)))) (M' := M) ⟨rfl, rfl⟩ ⟨⟨_, rfl, b12_⟩, rfl⟩
def fpL_X2_learn_x_x_x_x_x : List (Nat × Nat × Nat) := [(1, 112, 0)]
def fp_X2_learn_x_x_x_x_x (q k : Nat) : Bool := pvfp fpL_X2_learn_x_x_x_x_x q k
set_option maxHeartbeats 4000000 in
set_option maxRecDepth 10000 in
theorem sf_X2_learn_x_x_x_x_x (M : pvM) (hok : pvOk M) (q0 : Nat) (q1 : Nat) (n2 : Int32) (n3 : Int32) (n4 : Int32) (hq0 : pvkl q0 = 2) (hq1 : pvkl q1 = 3) (hn2 : 0 ≤ Int32.toInt n2 ∧ Int32.toInt n2 ≤ 6) (hn3 : 0 ≤ Int32.toInt n3 ∧ Int32.toInt n3 ≤ 3) (hn4 : 0 ≤ Int32.toInt n4 ∧ Int32.toInt n4 ≤ 99) (d : Nat) : PW 128 d (0, [some (pvR q0), some (pvR q1), some (pvI n2), some (pvI n3), some (pvI n4)], [], M) (fun r X => r = none ∧ pvOk X ∧ pvFr fp_X2_learn_x_x_x_x_x M X) := by
  have hT : pvdom 128 = pvD_128 := rfl
  refine pw_blkw hT 5 (pc := 7) (lo := [some (pvR q0), some (pvR q1), some (pvI n2), some (pvI n3), some (pvI n4)]) (st := []) (M := pvu M (q0 + 36) (Int32.toNatClampNeg 0) n2) rfl ⟨trivial, hq0, trivial, trivial, ⟨(pvow_2_36 hq0).1, (by rw [(pvow_2_36 hq0).2.1]; exact (zr_in (n := 6) (show 0 ≤ Int32.toInt 0 ∧ Int32.toInt 0 ≤ 0 from (by decide)) (by decide) (by decide)))⟩, trivial⟩ (fun M1_ e2_ => ?_)
  have o3_ : pvOk M1_ := pvok_u2 e2_ hok ((pvrg_a _ (by rw [(pvow_2_36 hq0).1]; decide)).trans (pvow_2_36 hq0).2.2.2) (zbnd n2)
  have f4_ : pvFr fp_X2_learn_x_x_x_x_x M M1_ := pvfr_u e2_ pvfr_0 (pvfp_r (l := fpL_X2_learn_x_x_x_x_x) (pvow_2_36 hq0).2.2.1 (kk := 0) (by decide) (Or.inl rfl))
  have b5_ : 0 ≤ Int32.toInt (M1_.1 q1 0) ∧ Int32.toInt (M1_.1 q1 0) ≤ 6 := pvok_r o3_ q1 0 ((pvrg_o 0 hq1 (by decide) (by decide)).trans rfl)
  refine pw_blkw hT 6 (pc := 17) (lo := [some (pvR q0), some (pvR q1), some (pvI n2), some (pvI n3), some (pvI n4)]) (st := []) (M := pvu M1_ (q0 + 36) (Int32.toNatClampNeg 1) (M1_.1 q1 0)) rfl ⟨trivial, hq0, trivial, trivial, hq1, ⟨(pvow_2_36 hq0).1, (by rw [(pvow_2_36 hq0).2.1]; exact (zr_in (n := 6) (show 1 ≤ Int32.toInt 1 ∧ Int32.toInt 1 ≤ 1 from (by decide)) (by decide) (by decide)))⟩, trivial⟩ (fun M6_ e7_ => ?_)
  have o8_ : pvOk M6_ := pvok_u2 e7_ o3_ ((pvrg_a _ (by rw [(pvow_2_36 hq0).1]; decide)).trans (pvow_2_36 hq0).2.2.2) (zbnd (M1_.1 q1 0))
  have f9_ : pvFr fp_X2_learn_x_x_x_x_x M M6_ := pvfr_u e7_ f4_ (pvfp_r (l := fpL_X2_learn_x_x_x_x_x) (pvow_2_36 hq0).2.2.1 (kk := 0) (by decide) (Or.inl rfl))
  have b10_ : 0 ≤ Int32.toInt (M6_.1 q1 2) ∧ Int32.toInt (M6_.1 q1 2) ≤ 3 := pvok_r o8_ q1 2 ((pvrg_o 2 hq1 (by decide) (by decide)).trans rfl)
  refine pw_blkw hT 6 (pc := 27) (lo := [some (pvR q0), some (pvR q1), some (pvI n2), some (pvI n3), some (pvI n4)]) (st := []) (M := pvu M6_ (q0 + 36) (Int32.toNatClampNeg 2) (M6_.1 q1 2)) rfl ⟨trivial, hq0, trivial, trivial, hq1, ⟨(pvow_2_36 hq0).1, (by rw [(pvow_2_36 hq0).2.1]; exact (zr_in (n := 6) (show 2 ≤ Int32.toInt 2 ∧ Int32.toInt 2 ≤ 2 from (by decide)) (by decide) (by decide)))⟩, trivial⟩ (fun M11_ e12_ => ?_)
  have o13_ : pvOk M11_ := pvok_u2 e12_ o8_ ((pvrg_a _ (by rw [(pvow_2_36 hq0).1]; decide)).trans (pvow_2_36 hq0).2.2.2) (zbnd (M6_.1 q1 2))
  have f14_ : pvFr fp_X2_learn_x_x_x_x_x M M11_ := pvfr_u e12_ f9_ (pvfp_r (l := fpL_X2_learn_x_x_x_x_x) (pvow_2_36 hq0).2.2.1 (kk := 0) (by decide) (Or.inl rfl))
  have b15_ : 0 ≤ Int32.toInt (M11_.1 q1 3) ∧ Int32.toInt (M11_.1 q1 3) ≤ 4 := pvok_r o13_ q1 3 ((pvrg_o 3 hq1 (by decide) (by decide)).trans rfl)
  refine pw_blkw hT 6 (pc := 37) (lo := [some (pvR q0), some (pvR q1), some (pvI n2), some (pvI n3), some (pvI n4)]) (st := []) (M := pvu M11_ (q0 + 36) (Int32.toNatClampNeg 3) (M11_.1 q1 3)) rfl ⟨trivial, hq0, trivial, trivial, hq1, ⟨(pvow_2_36 hq0).1, (by rw [(pvow_2_36 hq0).2.1]; exact (zr_in (n := 6) (show 3 ≤ Int32.toInt 3 ∧ Int32.toInt 3 ≤ 3 from (by decide)) (by decide) (by decide)))⟩, trivial⟩ (fun M16_ e17_ => ?_)
  have o18_ : pvOk M16_ := pvok_u2 e17_ o13_ ((pvrg_a _ (by rw [(pvow_2_36 hq0).1]; decide)).trans (pvow_2_36 hq0).2.2.2) (zbnd (M11_.1 q1 3))
  have f19_ : pvFr fp_X2_learn_x_x_x_x_x M M16_ := pvfr_u e17_ f14_ (pvfp_r (l := fpL_X2_learn_x_x_x_x_x) (pvow_2_36 hq0).2.2.1 (kk := 0) (by decide) (Or.inl rfl))
  refine pw_blkw hT 5 (pc := 44) (lo := [some (pvR q0), some (pvR q1), some (pvI n2), some (pvI n3), some (pvI n4)]) (st := []) (M := pvu M16_ (q0 + 36) (Int32.toNatClampNeg 4) n3) rfl ⟨trivial, hq0, trivial, trivial, ⟨(pvow_2_36 hq0).1, (by rw [(pvow_2_36 hq0).2.1]; exact (zr_in (n := 6) (show 4 ≤ Int32.toInt 4 ∧ Int32.toInt 4 ≤ 4 from (by decide)) (by decide) (by decide)))⟩, trivial⟩ (fun M20_ e21_ => ?_)
  have o22_ : pvOk M20_ := pvok_u2 e21_ o18_ ((pvrg_a _ (by rw [(pvow_2_36 hq0).1]; decide)).trans (pvow_2_36 hq0).2.2.2) (zbnd n3)
  have f23_ : pvFr fp_X2_learn_x_x_x_x_x M M20_ := pvfr_u e21_ f19_ (pvfp_r (l := fpL_X2_learn_x_x_x_x_x) (pvow_2_36 hq0).2.2.1 (kk := 0) (by decide) (Or.inl rfl))
  have q24_ : Int32.toInt (if 99 < n4 then 99 else n4) = min (Int32.toInt n4) (Int32.toInt 99) := pvmin n4 99
  have b25_ : 0 ≤ Int32.toInt (if 99 < n4 then 99 else n4) ∧ Int32.toInt (if 99 < n4 then 99 else n4) ≤ 99 := (by have u0 := hn4; have u1 := (show 99 ≤ Int32.toInt 99 ∧ Int32.toInt 99 ≤ 99 from (by decide)); omega)
  refine pw_blkw hT 7 (pc := 57) (lo := [some (pvR q0), some (pvR q1), some (pvI n2), some (pvI n3), some (pvI n4)]) (st := []) (M := pvu M20_ (q0 + 36) (Int32.toNatClampNeg 5) (if 99 < n4 then 99 else n4)) rfl ⟨trivial, hq0, trivial, trivial, trivial, (Nat.le_of_ble_eq_true rfl), ⟨(pvow_2_36 hq0).1, (by rw [(pvow_2_36 hq0).2.1]; exact (zr_in (n := 6) (show 5 ≤ Int32.toInt 5 ∧ Int32.toInt 5 ≤ 5 from (by decide)) (by decide) (by decide)))⟩, trivial⟩ (fun M26_ e27_ => ?_)
  have o28_ : pvOk M26_ := pvok_u2 e27_ o22_ ((pvrg_a _ (by rw [(pvow_2_36 hq0).1]; decide)).trans (pvow_2_36 hq0).2.2.2) (zbnd (if 99 < n4 then 99 else n4))
  have f29_ : pvFr fp_X2_learn_x_x_x_x_x M M26_ := pvfr_u e27_ f23_ (pvfp_r (l := fpL_X2_learn_x_x_x_x_x) (pvow_2_36 hq0).2.2.1 (kk := 0) (by decide) (Or.inl rfl))
  exact pw_ret hT rfl (r := none) (M' := M26_) ⟨rfl, rfl⟩ ⟨rfl, o28_, f29_⟩
set_option maxHeartbeats 4000000 in
set_option maxRecDepth 10000 in
theorem sf_X2_passes_x_x (M : pvM) (hok : pvOk M) (q0 : Nat) (n1 : Int32) (hq0 : pvkl q0 = 2) (d : Nat) : PW 129 d (0, [some (pvR q0), some (pvI n1), none, none], [], M) (fun r X => (∃ x : Int32, r = some (pvI x) ∧ 0 ≤ Int32.toInt x ∧ Int32.toInt x ≤ 1) ∧ X = M) := by
  have hT : pvdom 129 = pvD_129 := rfl
  refine pw_blk hT 5 (S' := (7, [some (pvR q0), some (pvI n1), some (pvI (n1 / 300)), none], [pvI (n1 / 300)], M)) rfl ⟨trivial, trivial, (by decide), trivial, trivial, trivial⟩ ?_
  refine pw_if hT (c := (n1 / 300) < 0) rfl rfl (fun c1_ => ?_) (fun c1_ => ?_)
  · have b2_ : (-2147483648) ≤ Int32.toInt (n1 / 300) ∧ Int32.toInt (n1 / 300) ≤ (-1) := zr_lt_l (-1) c1_ (zbnd (n1 / 300)) (show 0 ≤ Int32.toInt 0 ∧ Int32.toInt 0 ≤ 0 from (by decide)) (by decide)
    refine pw_blk hT 1 (S' := (20, [some (pvR q0), some (pvI n1), some (pvI (n1 / 300)), none], [pvI 0], M)) rfl ⟨trivial, trivial⟩ ?_
    exact pw_ret hT rfl (r := some (pvI 0)) (M' := M) ⟨Or.inl rfl, rfl, rfl⟩ ⟨⟨_, rfl, (zr_wide (show 0 ≤ Int32.toInt 0 ∧ Int32.toInt 0 ≤ 0 from (by decide)) (by decide) (by decide))⟩, rfl⟩
  · have b3_ : 0 ≤ Int32.toInt (n1 / 300) ∧ Int32.toInt (n1 / 300) ≤ 2147483647 := zr_nlt_l 0 c1_ (zbnd (n1 / 300)) (show 0 ≤ Int32.toInt 0 ∧ Int32.toInt 0 ≤ 0 from (by decide)) (by decide)
    have b4_ : 6 ≤ Int32.toInt (Int32.ofNat (pvln (q0 + 36))) ∧ Int32.toInt (Int32.ofNat (pvln (q0 + 36))) ≤ 6 := (by rw [(pvow_2_36 hq0).2.1]; decide)
    refine pw_blk hT 4 (S' := (16, [some (pvR q0), some (pvI n1), some (pvI (n1 / 300)), none], [pvI (Int32.ofNat (pvln (q0 + 36))), pvI (n1 / 300)], M)) rfl ⟨trivial, trivial, hq0, (pvow_2_36 hq0).1, trivial⟩ ?_
    refine pw_ic hT (c := (n1 / 300) < (Int32.ofNat (pvln (q0 + 36)))) rfl rfl (fun c5_ => ?_) (fun c5_ => ?_)
    · have b6_ : 0 ≤ Int32.toInt (n1 / 300) ∧ Int32.toInt (n1 / 300) ≤ 5 := zr_lt_l 5 c5_ b3_ b4_ (by decide)
      have d7_ : Int32.toInt (n1 / 300) < Int32.toInt (Int32.ofNat (pvln (q0 + 36))) := (zi_lt _ _).mp c5_
      refine pw_blk hT 9 (S' := (32, [some (pvR q0), some (pvI n1), some (pvI (n1 / 300)), some (pvI (n1 - n1 / 100 * 100))], [pvI ((n1 / 100) - (n1 / 100) / 3 * 3)], M)) rfl ⟨trivial, trivial, (by decide), trivial, trivial, trivial, (by decide), trivial, (by decide), trivial⟩ ?_
      refine pw_sw hT rfl rfl ?_
      refine And.intro (fun c8_ => ?_) (fun c8_ => ?_)
      · show PW 129 d (60, [some (pvR q0), some (pvI n1), some (pvI (n1 / 300)), some (pvI (n1 - n1 / 100 * 100))], [], M) _
        have b9_ : 0 ≤ Int32.toInt ((n1 / 100) - (n1 / 100) / 3 * 3) ∧ Int32.toInt ((n1 / 100) - (n1 / 100) / 3 * 3) ≤ 0 := (by have u0 := (zbnd ((n1 / 100) - (n1 / 100) / 3 * 3)); have u1 := (zi_eq _ _).mp c8_; have u2 := (show 0 ≤ Int32.toInt 0 ∧ Int32.toInt 0 ≤ 0 from (by decide)); omega)
        refine pw_blk hT 5 (S' := (67, [some (pvR q0), some (pvI n1), some (pvI (n1 / 300)), some (pvI (n1 - n1 / 100 * 100))], [pvI (n1 - n1 / 100 * 100), pvI (M.1 (q0 + 36) (Int32.toNatClampNeg (n1 / 300)))], M)) rfl ⟨trivial, hq0, trivial, ⟨(pvow_2_36 hq0).1, (by rw [(pvow_2_36 hq0).2.1]; exact (zr_in (n := 6) b6_ (by decide) (by decide)))⟩, trivial, trivial⟩ ?_
        refine pw_ic hT (c := (n1 - n1 / 100 * 100) ≤ (M.1 (q0 + 36) (Int32.toNatClampNeg (n1 / 300)))) rfl rfl (fun c10_ => ?_) (fun c10_ => ?_)
        · have d11_ : Int32.toInt (n1 - n1 / 100 * 100) ≤ Int32.toInt (M.1 (q0 + 36) (Int32.toNatClampNeg (n1 / 300))) := (zi_le _ _).mp c10_
          refine pw_blk hT 1 (S' := (75, [some (pvR q0), some (pvI n1), some (pvI (n1 / 300)), some (pvI (n1 - n1 / 100 * 100))], [pvI 0], M)) rfl ⟨trivial, trivial⟩ ?_
          exact pw_ret hT rfl (r := some (pvI 0)) (M' := M) ⟨Or.inl rfl, rfl, rfl⟩ ⟨⟨_, rfl, (zr_wide (show 0 ≤ Int32.toInt 0 ∧ Int32.toInt 0 ≤ 0 from (by decide)) (by decide) (by decide))⟩, rfl⟩
        · have b12_ : (-2147483647) ≤ Int32.toInt (n1 - n1 / 100 * 100) ∧ Int32.toInt (n1 - n1 / 100 * 100) ≤ 2147483647 := zr_nle_l (-2147483647) c10_ (zbnd (n1 - n1 / 100 * 100)) (zbnd (M.1 (q0 + 36) (Int32.toNatClampNeg (n1 / 300)))) (by decide)
          have b13_ : (-2147483648) ≤ Int32.toInt (M.1 (q0 + 36) (Int32.toNatClampNeg (n1 / 300))) ∧ Int32.toInt (M.1 (q0 + 36) (Int32.toNatClampNeg (n1 / 300))) ≤ 2147483646 := zr_nle_r 2147483646 c10_ (zbnd (M.1 (q0 + 36) (Int32.toNatClampNeg (n1 / 300)))) b12_ (by decide)
          have d14_ : Int32.toInt (n1 - n1 / 100 * 100) > Int32.toInt (M.1 (q0 + 36) (Int32.toNatClampNeg (n1 / 300))) := Int.not_le.mp ((not_congr (zi_le _ _)).mp c10_)
          refine pw_blk hT 2 (S' := (75, [some (pvR q0), some (pvI n1), some (pvI (n1 / 300)), some (pvI (n1 - n1 / 100 * 100))], [pvI 1], M)) rfl ⟨trivial, trivial, trivial⟩ ?_
          exact pw_ret hT rfl (r := some (pvI 1)) (M' := M) ⟨Or.inr rfl, rfl, rfl⟩ ⟨⟨_, rfl, (zr_wide (show 1 ≤ Int32.toInt 1 ∧ Int32.toInt 1 ≤ 1 from (by decide)) (by decide) (by decide))⟩, rfl⟩
      · refine And.intro (fun c15_ => ?_) (fun c15_ => ?_)
        · show PW 129 d (76, [some (pvR q0), some (pvI n1), some (pvI (n1 / 300)), some (pvI (n1 - n1 / 100 * 100))], [], M) _
          have b16_ : 1 ≤ Int32.toInt ((n1 / 100) - (n1 / 100) / 3 * 3) ∧ Int32.toInt ((n1 / 100) - (n1 / 100) / 3 * 3) ≤ 1 := (by have u0 := (zbnd ((n1 / 100) - (n1 / 100) / 3 * 3)); have u1 := (zi_eq _ _).mp c15_; have u2 := (show 1 ≤ Int32.toInt 1 ∧ Int32.toInt 1 ≤ 1 from (by decide)); omega)
          refine pw_blk hT 5 (S' := (83, [some (pvR q0), some (pvI n1), some (pvI (n1 / 300)), some (pvI (n1 - n1 / 100 * 100))], [pvI (n1 - n1 / 100 * 100), pvI (M.1 (q0 + 36) (Int32.toNatClampNeg (n1 / 300)))], M)) rfl ⟨trivial, hq0, trivial, ⟨(pvow_2_36 hq0).1, (by rw [(pvow_2_36 hq0).2.1]; exact (zr_in (n := 6) b6_ (by decide) (by decide)))⟩, trivial, trivial⟩ ?_
          refine pw_icn hT (c := (M.1 (q0 + 36) (Int32.toNatClampNeg (n1 / 300))) = (n1 - n1 / 100 * 100)) rfl rfl (fun c17_ => ?_) (fun c17_ => ?_)
          · refine pw_blk hT 1 (S' := (91, [some (pvR q0), some (pvI n1), some (pvI (n1 / 300)), some (pvI (n1 - n1 / 100 * 100))], [pvI 0], M)) rfl ⟨trivial, trivial⟩ ?_
            exact pw_ret hT rfl (r := some (pvI 0)) (M' := M) ⟨Or.inl rfl, rfl, rfl⟩ ⟨⟨_, rfl, (zr_wide (show 0 ≤ Int32.toInt 0 ∧ Int32.toInt 0 ≤ 0 from (by decide)) (by decide) (by decide))⟩, rfl⟩
          · have d18_ : Int32.toInt (M.1 (q0 + 36) (Int32.toNatClampNeg (n1 / 300))) = Int32.toInt (n1 - n1 / 100 * 100) := (zi_eq _ _).mp c17_
            refine pw_blk hT 2 (S' := (91, [some (pvR q0), some (pvI n1), some (pvI (n1 / 300)), some (pvI (n1 - n1 / 100 * 100))], [pvI 1], M)) rfl ⟨trivial, trivial, trivial⟩ ?_
            exact pw_ret hT rfl (r := some (pvI 1)) (M' := M) ⟨Or.inr rfl, rfl, rfl⟩ ⟨⟨_, rfl, (zr_wide (show 1 ≤ Int32.toInt 1 ∧ Int32.toInt 1 ≤ 1 from (by decide)) (by decide) (by decide))⟩, rfl⟩
        · show PW 129 d (92, [some (pvR q0), some (pvI n1), some (pvI (n1 / 300)), some (pvI (n1 - n1 / 100 * 100))], [], M) _
          refine pw_blk hT 5 (S' := (99, [some (pvR q0), some (pvI n1), some (pvI (n1 / 300)), some (pvI (n1 - n1 / 100 * 100))], [pvI (n1 - n1 / 100 * 100), pvI (M.1 (q0 + 36) (Int32.toNatClampNeg (n1 / 300)))], M)) rfl ⟨trivial, hq0, trivial, ⟨(pvow_2_36 hq0).1, (by rw [(pvow_2_36 hq0).2.1]; exact (zr_in (n := 6) b6_ (by decide) (by decide)))⟩, trivial, trivial⟩ ?_
          refine pw_ic hT (c := (M.1 (q0 + 36) (Int32.toNatClampNeg (n1 / 300))) ≤ (n1 - n1 / 100 * 100)) rfl rfl (fun c19_ => ?_) (fun c19_ => ?_)
          · have d20_ : Int32.toInt (M.1 (q0 + 36) (Int32.toNatClampNeg (n1 / 300))) ≤ Int32.toInt (n1 - n1 / 100 * 100) := (zi_le _ _).mp c19_
            refine pw_blk hT 1 (S' := (107, [some (pvR q0), some (pvI n1), some (pvI (n1 / 300)), some (pvI (n1 - n1 / 100 * 100))], [pvI 0], M)) rfl ⟨trivial, trivial⟩ ?_
            exact pw_ret hT rfl (r := some (pvI 0)) (M' := M) ⟨Or.inl rfl, rfl, rfl⟩ ⟨⟨_, rfl, (zr_wide (show 0 ≤ Int32.toInt 0 ∧ Int32.toInt 0 ≤ 0 from (by decide)) (by decide) (by decide))⟩, rfl⟩
          · have b21_ : (-2147483647) ≤ Int32.toInt (M.1 (q0 + 36) (Int32.toNatClampNeg (n1 / 300))) ∧ Int32.toInt (M.1 (q0 + 36) (Int32.toNatClampNeg (n1 / 300))) ≤ 2147483647 := zr_nle_l (-2147483647) c19_ (zbnd (M.1 (q0 + 36) (Int32.toNatClampNeg (n1 / 300)))) (zbnd (n1 - n1 / 100 * 100)) (by decide)
            have b22_ : (-2147483648) ≤ Int32.toInt (n1 - n1 / 100 * 100) ∧ Int32.toInt (n1 - n1 / 100 * 100) ≤ 2147483646 := zr_nle_r 2147483646 c19_ (zbnd (n1 - n1 / 100 * 100)) b21_ (by decide)
            have d23_ : Int32.toInt (M.1 (q0 + 36) (Int32.toNatClampNeg (n1 / 300))) > Int32.toInt (n1 - n1 / 100 * 100) := Int.not_le.mp ((not_congr (zi_le _ _)).mp c19_)
            refine pw_blk hT 2 (S' := (107, [some (pvR q0), some (pvI n1), some (pvI (n1 / 300)), some (pvI (n1 - n1 / 100 * 100))], [pvI 1], M)) rfl ⟨trivial, trivial, trivial⟩ ?_
            exact pw_ret hT rfl (r := some (pvI 1)) (M' := M) ⟨Or.inr rfl, rfl, rfl⟩ ⟨⟨_, rfl, (zr_wide (show 1 ≤ Int32.toInt 1 ∧ Int32.toInt 1 ≤ 1 from (by decide)) (by decide) (by decide))⟩, rfl⟩
    · have b24_ : 6 ≤ Int32.toInt (n1 / 300) ∧ Int32.toInt (n1 / 300) ≤ 2147483647 := zr_nlt_l 6 c5_ b3_ b4_ (by decide)
      have d25_ : Int32.toInt (n1 / 300) ≥ Int32.toInt (Int32.ofNat (pvln (q0 + 36))) := Int.not_lt.mp ((not_congr (zi_lt _ _)).mp c5_)
      refine pw_blk hT 1 (S' := (20, [some (pvR q0), some (pvI n1), some (pvI (n1 / 300)), none], [pvI 0], M)) rfl ⟨trivial, trivial⟩ ?_
      exact pw_ret hT rfl (r := some (pvI 0)) (M' := M) ⟨Or.inl rfl, rfl, rfl⟩ ⟨⟨_, rfl, (zr_wide (show 0 ≤ Int32.toInt 0 ∧ Int32.toInt 0 ≤ 0 from (by decide)) (by decide) (by decide))⟩, rfl⟩
set_option maxHeartbeats 4000000 in
set_option maxRecDepth 10000 in
theorem sf_X2_isTrue_x_x_x (M : pvM) (hok : pvOk M) (q0 : Nat) (n1 : Int32) (n2 : Int32) (hq0 : pvkl q0 = 2) (hn1 : 0 ≤ Int32.toInt n1 ∧ Int32.toInt n1 ≤ 100) (hn2 : 0 ≤ Int32.toInt n2 ∧ Int32.toInt n2 ≤ 100) (d : Nat) : PW 127 d (0, [some (pvR q0), some (pvI n1), some (pvI n2), none, none, none], [], M) (fun r X => (∃ x : Int32, r = some (pvI x) ∧ 0 ≤ Int32.toInt x ∧ Int32.toInt x ≤ 1) ∧ X = M) := by
  have hT : pvdom 127 = pvD_127 := rfl
  refine pw_blk hT 4 (S' := (5, [some (pvR q0), some (pvI n1), some (pvI n2), some (pvI 0), some (pvI n1), none], [], M)) rfl ⟨trivial, trivial, trivial, trivial, trivial⟩ ?_
  have hlz79_ : ∀ (nz79_ : Nat) (i3z79_ : Int32) (i4z79_ : Int32) (v5z79_ : Option pvV), (0 ≤ Int32.toInt i4z79_ ∧ Int32.toInt i4z79_ ≤ 100) → (zhide ((101 - Int32.toInt i4z79_).toNat < nz79_)) → PW 127 d (5, [some (pvR q0), some (pvI n1), some (pvI n2), some (pvI i3z79_), some (pvI i4z79_), v5z79_], [], M) (fun r X => (∃ x : Int32, r = some (pvI x) ∧ 0 ≤ Int32.toInt x ∧ Int32.toInt x ≤ 1) ∧ X = M) := by
    intro nz79_
    induction nz79_ with
    | zero => intro i3z79_ i4z79_ v5z79_ h4z79_ hmz79_; exact absurd (zshow hmz79_) (Nat.not_lt_zero _)
    | succ nz79_ ihz79_ =>
      intro i3z79_ i4z79_ v5z79_ h4z79_ hmz79_
      refine pw_blk hT 2 (S' := (8, [some (pvR q0), some (pvI n1), some (pvI n2), some (pvI i3z79_), some (pvI i4z79_), v5z79_], [pvI n2, pvI i4z79_], M)) rfl ⟨trivial, trivial, trivial⟩ ?_
      refine pw_ic hT (c := n2 ≤ i4z79_) rfl rfl (fun c80_ => ?_) (fun c80_ => ?_)
      · have d81_ : Int32.toInt n2 ≤ Int32.toInt i4z79_ := (zi_le _ _).mp c80_
        have b82_ : 0 ≤ Int32.toInt (i3z79_ &&& 1) ∧ Int32.toInt (i3z79_ &&& 1) ≤ 1 := (pvand1 i3z79_)
        refine pw_blk hT 4 (S' := (112, [some (pvR q0), some (pvI n1), some (pvI n2), some (pvI i3z79_), some (pvI i4z79_), v5z79_], [pvI 1, pvI (i3z79_ &&& 1)], M)) rfl ⟨trivial, trivial, trivial, trivial, trivial⟩ ?_
        refine pw_icn hT (c := (i3z79_ &&& 1) = 1) rfl rfl (fun c83_ => ?_) (fun c83_ => ?_)
        · have b84_ : 0 ≤ Int32.toInt (i3z79_ &&& 1) ∧ Int32.toInt (i3z79_ &&& 1) ≤ 0 := (by have u0 := b82_; have u1 := (not_congr (zi_eq _ _)).mp c83_; have u2 := (show 1 ≤ Int32.toInt 1 ∧ Int32.toInt 1 ≤ 1 from (by decide)); omega)
          refine pw_blk hT 1 (S' := (120, [some (pvR q0), some (pvI n1), some (pvI n2), some (pvI i3z79_), some (pvI i4z79_), v5z79_], [pvI 0], M)) rfl ⟨trivial, trivial⟩ ?_
          exact pw_ret hT rfl (r := some (pvI 0)) (M' := M) ⟨Or.inl rfl, rfl, rfl⟩ ⟨⟨_, rfl, (zr_wide (show 0 ≤ Int32.toInt 0 ∧ Int32.toInt 0 ≤ 0 from (by decide)) (by decide) (by decide))⟩, rfl⟩
        · have b85_ : 1 ≤ Int32.toInt (i3z79_ &&& 1) ∧ Int32.toInt (i3z79_ &&& 1) ≤ 1 := (by have u0 := b82_; have u1 := (zi_eq _ _).mp c83_; have u2 := (show 1 ≤ Int32.toInt 1 ∧ Int32.toInt 1 ≤ 1 from (by decide)); omega)
          refine pw_blk hT 2 (S' := (120, [some (pvR q0), some (pvI n1), some (pvI n2), some (pvI i3z79_), some (pvI i4z79_), v5z79_], [pvI 1], M)) rfl ⟨trivial, trivial, trivial⟩ ?_
          exact pw_ret hT rfl (r := some (pvI 1)) (M' := M) ⟨Or.inr rfl, rfl, rfl⟩ ⟨⟨_, rfl, (zr_wide (show 1 ≤ Int32.toInt 1 ∧ Int32.toInt 1 ≤ 1 from (by decide)) (by decide) (by decide))⟩, rfl⟩
      · have b86_ : 1 ≤ Int32.toInt n2 ∧ Int32.toInt n2 ≤ 100 := zr_nle_l 1 c80_ hn2 h4z79_ (by decide)
        have b87_ : 0 ≤ Int32.toInt i4z79_ ∧ Int32.toInt i4z79_ ≤ 99 := zr_nle_r 99 c80_ h4z79_ b86_ (by decide)
        have d88_ : Int32.toInt n2 > Int32.toInt i4z79_ := Int.not_le.mp ((not_congr (zi_le _ _)).mp c80_)
        have b89_ : 0 ≤ Int32.toInt (i3z79_ &&& 1) ∧ Int32.toInt (i3z79_ &&& 1) ≤ 1 := (pvand1 i3z79_)
        have b90_ : (-3) ≤ Int32.toInt (M.1 (q0 + 27) (Int32.toNatClampNeg i4z79_)) ∧ Int32.toInt (M.1 (q0 + 27) (Int32.toNatClampNeg i4z79_)) ≤ 2099 := pvok_r hok (q0 + 27) (Int32.toNatClampNeg i4z79_) ((pvrg_a _ (by rw [(pvow_2_27 hq0).1]; decide)).trans (pvow_2_27 hq0).2.2.2)
        refine pw_blk hT 8 (S' := (23, [some (pvR q0), some (pvI n1), some (pvI n2), some (pvI i3z79_), some (pvI i4z79_), some (pvI (i3z79_ &&& 1))], [pvI (M.1 (q0 + 27) (Int32.toNatClampNeg i4z79_))], M)) rfl ⟨trivial, trivial, trivial, trivial, trivial, hq0, trivial, ⟨(pvow_2_27 hq0).1, (by rw [(pvow_2_27 hq0).2.1]; exact (zr_in (n := 100) b87_ (by decide) (by decide)))⟩, trivial⟩ ?_
        refine pw_sw hT rfl rfl ?_
        refine And.intro (fun c91_ => ?_) (fun c91_ => ?_)
        · show PW 127 d (68, [some (pvR q0), some (pvI n1), some (pvI n2), some (pvI i3z79_), some (pvI i4z79_), some (pvI (i3z79_ &&& 1))], [], M) _
          have b92_ : (-3) ≤ Int32.toInt (M.1 (q0 + 27) (Int32.toNatClampNeg i4z79_)) ∧ Int32.toInt (M.1 (q0 + 27) (Int32.toNatClampNeg i4z79_)) ≤ (-3) := (by have u0 := b90_; have u1 := (zi_eq _ _).mp c91_; have u2 := (show (-3) ≤ Int32.toInt (-3) ∧ Int32.toInt (-3) ≤ (-3) from (by decide)); omega)
          obtain ⟨q94_, b93_⟩ : (Int32.toInt (i4z79_ + 1) = Int32.toInt i4z79_ + 1) ∧ (1 ≤ Int32.toInt (i4z79_ + 1) ∧ Int32.toInt (i4z79_ + 1) ≤ 100) := zadd_k i4z79_ 1 1 1 100 b87_ (by decide) (by decide) (by decide) (by decide) (by decide)
          refine pw_blk hT 9 (S' := (5, [some (pvR q0), some (pvI n1), some (pvI n2), some (pvI ((i3z79_ >>> (1 &&& 31)) ||| (i3z79_ &&& 1))), some (pvI (i4z79_ + 1)), some (pvI (i3z79_ &&& 1))], [], M)) rfl ⟨trivial, trivial, trivial, trivial, trivial, trivial, trivial, trivial, trivial, trivial⟩ ?_
          exact ihz79_ ((i3z79_ >>> (1 &&& 31)) ||| (i3z79_ &&& 1)) (i4z79_ + 1) (some (pvI (i3z79_ &&& 1))) (zr_wide b93_ (by decide) (by decide)) (zhid (pvms_up (zshow hmz79_) h4z79_ q94_ (by decide) (by decide)))
        · have b95_ : (-2) ≤ Int32.toInt (M.1 (q0 + 27) (Int32.toNatClampNeg i4z79_)) ∧ Int32.toInt (M.1 (q0 + 27) (Int32.toNatClampNeg i4z79_)) ≤ 2099 := (by have u0 := b90_; have u1 := (not_congr (zi_eq _ _)).mp c91_; have u2 := (show (-3) ≤ Int32.toInt (-3) ∧ Int32.toInt (-3) ≤ (-3) from (by decide)); omega)
          refine And.intro (fun c96_ => ?_) (fun c96_ => ?_)
          · show PW 127 d (55, [some (pvR q0), some (pvI n1), some (pvI n2), some (pvI i3z79_), some (pvI i4z79_), some (pvI (i3z79_ &&& 1))], [], M) _
            have b97_ : (-2) ≤ Int32.toInt (M.1 (q0 + 27) (Int32.toNatClampNeg i4z79_)) ∧ Int32.toInt (M.1 (q0 + 27) (Int32.toNatClampNeg i4z79_)) ≤ (-2) := (by have u0 := b95_; have u1 := (zi_eq _ _).mp c96_; have u2 := (show (-2) ≤ Int32.toInt (-2) ∧ Int32.toInt (-2) ≤ (-2) from (by decide)); omega)
            obtain ⟨q99_, b98_⟩ : (Int32.toInt (i4z79_ + 1) = Int32.toInt i4z79_ + 1) ∧ (1 ≤ Int32.toInt (i4z79_ + 1) ∧ Int32.toInt (i4z79_ + 1) ≤ 100) := zadd_k i4z79_ 1 1 1 100 b87_ (by decide) (by decide) (by decide) (by decide) (by decide)
            refine pw_blk hT 11 (S' := (5, [some (pvR q0), some (pvI n1), some (pvI n2), some (pvI ((i3z79_ >>> (1 &&& 31)) &&& ((i3z79_ &&& 1) ||| (-2)))), some (pvI (i4z79_ + 1)), some (pvI (i3z79_ &&& 1))], [], M)) rfl ⟨trivial, trivial, trivial, trivial, trivial, trivial, trivial, trivial, trivial, trivial, trivial, trivial⟩ ?_
            exact ihz79_ ((i3z79_ >>> (1 &&& 31)) &&& ((i3z79_ &&& 1) ||| (-2))) (i4z79_ + 1) (some (pvI (i3z79_ &&& 1))) (zr_wide b98_ (by decide) (by decide)) (zhid (pvms_up (zshow hmz79_) h4z79_ q99_ (by decide) (by decide)))
          · have b100_ : (-1) ≤ Int32.toInt (M.1 (q0 + 27) (Int32.toNatClampNeg i4z79_)) ∧ Int32.toInt (M.1 (q0 + 27) (Int32.toNatClampNeg i4z79_)) ≤ 2099 := (by have u0 := b95_; have u1 := (not_congr (zi_eq _ _)).mp c96_; have u2 := (show (-2) ≤ Int32.toInt (-2) ∧ Int32.toInt (-2) ≤ (-2) from (by decide)); omega)
            refine And.intro (fun c101_ => ?_) (fun c101_ => ?_)
            · show PW 127 d (48, [some (pvR q0), some (pvI n1), some (pvI n2), some (pvI i3z79_), some (pvI i4z79_), some (pvI (i3z79_ &&& 1))], [], M) _
              have b102_ : (-1) ≤ Int32.toInt (M.1 (q0 + 27) (Int32.toNatClampNeg i4z79_)) ∧ Int32.toInt (M.1 (q0 + 27) (Int32.toNatClampNeg i4z79_)) ≤ (-1) := (by have u0 := b100_; have u1 := (zi_eq _ _).mp c101_; have u2 := (show (-1) ≤ Int32.toInt (-1) ∧ Int32.toInt (-1) ≤ (-1) from (by decide)); omega)
              obtain ⟨q104_, b103_⟩ : (Int32.toInt (i4z79_ + 1) = Int32.toInt i4z79_ + 1) ∧ (1 ≤ Int32.toInt (i4z79_ + 1) ∧ Int32.toInt (i4z79_ + 1) ≤ 100) := zadd_k i4z79_ 1 1 1 100 b87_ (by decide) (by decide) (by decide) (by decide) (by decide)
              refine pw_blk hT 7 (S' := (5, [some (pvR q0), some (pvI n1), some (pvI n2), some (pvI (i3z79_ ^^^ 1)), some (pvI (i4z79_ + 1)), some (pvI (i3z79_ &&& 1))], [], M)) rfl ⟨trivial, trivial, trivial, trivial, trivial, trivial, trivial, trivial⟩ ?_
              exact ihz79_ (i3z79_ ^^^ 1) (i4z79_ + 1) (some (pvI (i3z79_ &&& 1))) (zr_wide b103_ (by decide) (by decide)) (zhid (pvms_up (zshow hmz79_) h4z79_ q104_ (by decide) (by decide)))
            · have b105_ : 0 ≤ Int32.toInt (M.1 (q0 + 27) (Int32.toNatClampNeg i4z79_)) ∧ Int32.toInt (M.1 (q0 + 27) (Int32.toNatClampNeg i4z79_)) ≤ 2099 := (by have u0 := b100_; have u1 := (not_congr (zi_eq _ _)).mp c101_; have u2 := (show (-1) ≤ Int32.toInt (-1) ∧ Int32.toInt (-1) ≤ (-1) from (by decide)); omega)
              show PW 127 d (78, [some (pvR q0), some (pvI n1), some (pvI n2), some (pvI i3z79_), some (pvI i4z79_), some (pvI (i3z79_ &&& 1))], [], M) _
              refine pw_blk hT 8 (S' := (89, [some (pvR q0), some (pvI n1), some (pvI n2), some (pvI i3z79_), some (pvI i4z79_), some (pvI (i3z79_ &&& 1))], [pvI (M.1 (q0 + 27) (Int32.toNatClampNeg i4z79_)), pvR q0, pvI (i3z79_ <<< (1 &&& 31))], M)) rfl ⟨trivial, trivial, trivial, trivial, trivial, hq0, trivial, ⟨(pvow_2_27 hq0).1, (by rw [(pvow_2_27 hq0).2.1]; exact (zr_in (n := 100) b87_ (by decide) (by decide)))⟩, trivial⟩ ?_
              refine pw_callGp hT (as := [pvR q0, pvI (M.1 (q0 + 27) (Int32.toNatClampNeg i4z79_))]) (lo1 := [some (pvR q0), some (pvI (M.1 (q0 + 27) (Int32.toNatClampNeg i4z79_))), none, none]) (d1 := d) (rest := [pvI (i3z79_ <<< (1 &&& 31))]) rfl rfl rfl rfl rfl (fun _ => hq0) (Nat.zero_le _) rfl rfl rfl (sf_X2_passes_x_x M hok q0 (M.1 (q0 + 27) (Int32.toNatClampNeg i4z79_)) hq0 d) (fun x106_ b108_ => ?_)
              refine pw_if hT (c := x106_ = 0) rfl rfl (fun c111_ => ?_) (fun c111_ => ?_)
              · have b112_ : 0 ≤ Int32.toInt x106_ ∧ Int32.toInt x106_ ≤ 0 := (by have u0 := b108_; have u1 := (zi_eq _ _).mp c111_; have u2 := (show 0 ≤ Int32.toInt 0 ∧ Int32.toInt 0 ≤ 0 from (by decide)); omega)
                obtain ⟨q114_, b113_⟩ : (Int32.toInt (i4z79_ + 1) = Int32.toInt i4z79_ + 1) ∧ (1 ≤ Int32.toInt (i4z79_ + 1) ∧ Int32.toInt (i4z79_ + 1) ≤ 100) := zadd_k i4z79_ 1 1 1 100 b87_ (by decide) (by decide) (by decide) (by decide) (by decide)
                refine pw_blk hT 5 (S' := (5, [some (pvR q0), some (pvI n1), some (pvI n2), some (pvI ((i3z79_ <<< (1 &&& 31)) ||| 0)), some (pvI (i4z79_ + 1)), some (pvI (i3z79_ &&& 1))], [], M)) rfl ⟨trivial, trivial, trivial, trivial, trivial, trivial⟩ ?_
                exact ihz79_ ((i3z79_ <<< (1 &&& 31)) ||| 0) (i4z79_ + 1) (some (pvI (i3z79_ &&& 1))) (zr_wide b113_ (by decide) (by decide)) (zhid (pvms_up (zshow hmz79_) h4z79_ q114_ (by decide) (by decide)))
              · have b115_ : 1 ≤ Int32.toInt x106_ ∧ Int32.toInt x106_ ≤ 1 := (by have u0 := b108_; have u1 := (not_congr (zi_eq _ _)).mp c111_; have u2 := (show 0 ≤ Int32.toInt 0 ∧ Int32.toInt 0 ≤ 0 from (by decide)); omega)
                obtain ⟨q117_, b116_⟩ : (Int32.toInt (i4z79_ + 1) = Int32.toInt i4z79_ + 1) ∧ (1 ≤ Int32.toInt (i4z79_ + 1) ∧ Int32.toInt (i4z79_ + 1) ≤ 100) := zadd_k i4z79_ 1 1 1 100 b87_ (by decide) (by decide) (by decide) (by decide) (by decide)
                refine pw_blk hT 6 (S' := (5, [some (pvR q0), some (pvI n1), some (pvI n2), some (pvI ((i3z79_ <<< (1 &&& 31)) ||| 1)), some (pvI (i4z79_ + 1)), some (pvI (i3z79_ &&& 1))], [], M)) rfl ⟨trivial, trivial, trivial, trivial, trivial, trivial, trivial⟩ ?_
                exact ihz79_ ((i3z79_ <<< (1 &&& 31)) ||| 1) (i4z79_ + 1) (some (pvI (i3z79_ &&& 1))) (zr_wide b116_ (by decide) (by decide)) (zhid (pvms_up (zshow hmz79_) h4z79_ q117_ (by decide) (by decide)))
  exact hlz79_ _ 0 n1 none hn1 (zhid (Nat.lt_succ_self _))
def fpL_X2_rainOn_x_x_x_x_x : List (Nat × Nat × Nat) := [(1, 112, 0)]
def fp_X2_rainOn_x_x_x_x_x (q k : Nat) : Bool := pvfp fpL_X2_rainOn_x_x_x_x_x q k
theorem fp_X2_rainOn_x_x_x_x_x_fp_X2_learn_x_x_x_x_x (a b : Nat) (h : fp_X2_learn_x_x_x_x_x a b = true) : fp_X2_rainOn_x_x_x_x_x a b = true := pvfp_sub (l1 := fpL_X2_learn_x_x_x_x_x) (l2 := fpL_X2_rainOn_x_x_x_x_x) (by decide) a b h
set_option maxHeartbeats 4000000 in
set_option maxRecDepth 10000 in
theorem sf_X2_rainOn_x_x_x_x_x (M : pvM) (hok : pvOk M) (q0 : Nat) (q1 : Nat) (n2 : Int32) (n3 : Int32) (n4 : Int32) (hq0 : pvkl q0 = 2) (hq1 : pvkl q1 = 3) (hn2 : 0 ≤ Int32.toInt n2 ∧ Int32.toInt n2 ≤ 6) (hn3 : 0 ≤ Int32.toInt n3 ∧ Int32.toInt n3 ≤ 3) (hn4 : 0 ≤ Int32.toInt n4 ∧ Int32.toInt n4 ≤ 99) (d : Nat) : PW 130 d (0, [some (pvR q0), some (pvR q1), some (pvI n2), some (pvI n3), some (pvI n4), none, none, none], [], M) (fun r X => (∃ x : Int32, r = some (pvI x) ∧ 0 ≤ Int32.toInt x ∧ Int32.toInt x ≤ 1000) ∧ pvOk X ∧ pvFr fp_X2_rainOn_x_x_x_x_x M X) := by
  have hT : pvdom 130 = pvD_130 := rfl
  refine pw_blk hT 5 (S' := (6, [some (pvR q0), some (pvR q1), some (pvI n2), some (pvI n3), some (pvI n4), none, none, none], [pvI n4, pvI n3, pvI n2, pvR q1, pvR q0], M)) rfl ⟨trivial, trivial, trivial, trivial, trivial, trivial⟩ ?_
  refine pw_callV hT (as := [pvR q0, pvR q1, pvI n2, pvI n3, pvI n4]) (lo1 := [some (pvR q0), some (pvR q1), some (pvI n2), some (pvI n3), some (pvI n4)]) (d1 := d) (rest := []) rfl rfl rfl rfl rfl (fun _ => hq0) (Nat.zero_le _) rfl rfl rfl (sf_X2_learn_x_x_x_x_x M hok q0 q1 n2 n3 n4 hq0 hq1 hn2 hn3 hn4 d) (fun M2_ o4_ g5_ => ?_)
  have f6_ : pvFr fp_X2_rainOn_x_x_x_x_x M M2_ := pvfr_t g5_ pvfr_0 fp_X2_rainOn_x_x_x_x_x_fp_X2_learn_x_x_x_x_x
  refine pw_blk hT 6 (S' := (18, [some (pvR q0), some (pvR q1), some (pvI n2), some (pvI n3), some (pvI n4), some (pvI 3), some (pvI 0), some (pvI 0)], [], M2_)) rfl ⟨trivial, trivial, trivial, trivial, trivial, trivial, trivial⟩ ?_
  have hlz80_ : ∀ (nz80_ : Nat) (i5z80_ : Int32) (i6z80_ : Int32) (i7z80_ : Int32), ((-1000) ≤ Int32.toInt i5z80_ ∧ Int32.toInt i5z80_ ≤ 1000) → (0 ≤ Int32.toInt i6z80_ ∧ Int32.toInt i6z80_ ≤ 100) → (0 ≤ Int32.toInt i7z80_ ∧ Int32.toInt i7z80_ ≤ 10) → (Int32.toInt i5z80_ ≤ 3 + 99 * Int32.toInt i7z80_) → (-(99 * Int32.toInt i7z80_) ≤ Int32.toInt i5z80_) → (zhide ((11 - Int32.toInt i7z80_).toNat < nz80_)) → PW 130 d (18, [some (pvR q0), some (pvR q1), some (pvI n2), some (pvI n3), some (pvI n4), some (pvI i5z80_), some (pvI i6z80_), some (pvI i7z80_)], [], M2_) (fun r X => (∃ x : Int32, r = some (pvI x) ∧ 0 ≤ Int32.toInt x ∧ Int32.toInt x ≤ 1000) ∧ pvOk X ∧ pvFr fp_X2_rainOn_x_x_x_x_x M X) := by
    intro nz80_
    induction nz80_ with
    | zero => intro i5z80_ i6z80_ i7z80_ h5z80_ h6z80_ h7z80_ j0z80_ j1z80_ hmz80_; exact absurd (zshow hmz80_) (Nat.not_lt_zero _)
    | succ nz80_ ihz80_ =>
      intro i5z80_ i6z80_ i7z80_ h5z80_ h6z80_ h7z80_ j0z80_ j1z80_ hmz80_
      have b81_ : 0 ≤ Int32.toInt (M2_.1 q0 2) ∧ Int32.toInt (M2_.1 q0 2) ≤ 10 := pvok_r o4_ q0 2 ((pvrg_o 2 hq0 (by decide) (by decide)).trans rfl)
      refine pw_blk hT 3 (S' := (24, [some (pvR q0), some (pvR q1), some (pvI n2), some (pvI n3), some (pvI n4), some (pvI i5z80_), some (pvI i6z80_), some (pvI i7z80_)], [pvI (M2_.1 q0 2), pvI i7z80_], M2_)) rfl ⟨trivial, trivial, hq0, trivial⟩ ?_
      refine pw_ic hT (c := (M2_.1 q0 2) ≤ i7z80_) rfl rfl (fun c82_ => ?_) (fun c82_ => ?_)
      · have d83_ : Int32.toInt (M2_.1 q0 2) ≤ Int32.toInt i7z80_ := (zi_le _ _).mp c82_
        have q84_ : Int32.toInt (if i5z80_ < 0 then 0 else i5z80_) = max (Int32.toInt i5z80_) (Int32.toInt 0) := pvmax i5z80_ 0
        have b85_ : 0 ≤ Int32.toInt (if i5z80_ < 0 then 0 else i5z80_) ∧ Int32.toInt (if i5z80_ < 0 then 0 else i5z80_) ≤ 1000 := (by have u0 := h5z80_; have u1 := (show 0 ≤ Int32.toInt 0 ∧ Int32.toInt 0 ≤ 0 from (by decide)); omega)
        refine pw_blk hT 3 (S' := (76, [some (pvR q0), some (pvR q1), some (pvI n2), some (pvI n3), some (pvI n4), some (pvI i5z80_), some (pvI i6z80_), some (pvI i7z80_)], [pvI (if i5z80_ < 0 then 0 else i5z80_)], M2_)) rfl ⟨trivial, trivial, (Nat.le_of_ble_eq_true rfl), trivial⟩ ?_
        exact pw_ret hT rfl (r := some (pvI (if i5z80_ < 0 then 0 else i5z80_))) (M' := M2_) ⟨rfl, rfl⟩ ⟨⟨_, rfl, b85_⟩, o4_, f6_⟩
      · have b86_ : 1 ≤ Int32.toInt (M2_.1 q0 2) ∧ Int32.toInt (M2_.1 q0 2) ≤ 10 := zr_nle_l 1 c82_ b81_ h7z80_ (by decide)
        have b87_ : 0 ≤ Int32.toInt i7z80_ ∧ Int32.toInt i7z80_ ≤ 9 := zr_nle_r 9 c82_ h7z80_ b86_ (by decide)
        have d88_ : Int32.toInt (M2_.1 q0 2) > Int32.toInt i7z80_ := Int.not_le.mp ((not_congr (zi_le _ _)).mp c82_)
        have b89_ : 0 ≤ Int32.toInt (M2_.1 (q0 + 18) (Int32.toNatClampNeg i7z80_)) ∧ Int32.toInt (M2_.1 (q0 + 18) (Int32.toNatClampNeg i7z80_)) ≤ 100 := pvok_r o4_ (q0 + 18) (Int32.toNatClampNeg i7z80_) ((pvrg_a _ (by rw [(pvow_2_18 hq0).1]; decide)).trans (pvow_2_18 hq0).2.2.2)
        refine pw_blk hT 6 (S' := (37, [some (pvR q0), some (pvR q1), some (pvI n2), some (pvI n3), some (pvI n4), some (pvI i5z80_), some (pvI i6z80_), some (pvI i7z80_)], [pvI (M2_.1 (q0 + 18) (Int32.toNatClampNeg i7z80_)), pvI i6z80_, pvR q0], M2_)) rfl ⟨trivial, trivial, trivial, hq0, trivial, ⟨(pvow_2_18 hq0).1, (by rw [(pvow_2_18 hq0).2.1]; exact (zr_in (n := 10) b87_ (by decide) (by decide)))⟩, trivial⟩ ?_
        refine pw_callGp hT (as := [pvR q0, pvI i6z80_, pvI (M2_.1 (q0 + 18) (Int32.toNatClampNeg i7z80_))]) (lo1 := [some (pvR q0), some (pvI i6z80_), some (pvI (M2_.1 (q0 + 18) (Int32.toNatClampNeg i7z80_))), none, none, none]) (d1 := d) (rest := []) rfl rfl rfl rfl rfl (fun _ => hq0) (Nat.zero_le _) rfl rfl rfl (sf_X2_isTrue_x_x_x M2_ o4_ q0 i6z80_ (M2_.1 (q0 + 18) (Int32.toNatClampNeg i7z80_)) hq0 h6z80_ b89_ d) (fun x90_ b92_ => ?_)
        refine pw_if hT (c := x90_ = 0) rfl rfl (fun c95_ => ?_) (fun c95_ => ?_)
        · have b96_ : 0 ≤ Int32.toInt x90_ ∧ Int32.toInt x90_ ≤ 0 := (by have u0 := b92_; have u1 := (zi_eq _ _).mp c95_; have u2 := (show 0 ≤ Int32.toInt 0 ∧ Int32.toInt 0 ≤ 0 from (by decide)); omega)
          obtain ⟨q98_, b97_⟩ : (Int32.toInt (i7z80_ + 1) = Int32.toInt i7z80_ + 1) ∧ (1 ≤ Int32.toInt (i7z80_ + 1) ∧ Int32.toInt (i7z80_ + 1) ≤ 10) := zadd_k i7z80_ 1 1 1 10 b87_ (by decide) (by decide) (by decide) (by decide) (by decide)
          refine pw_blk hT 7 (S' := (18, [some (pvR q0), some (pvR q1), some (pvI n2), some (pvI n3), some (pvI n4), some (pvI i5z80_), some (pvI (M2_.1 (q0 + 18) (Int32.toNatClampNeg i7z80_))), some (pvI (i7z80_ + 1))], [], M2_)) rfl ⟨trivial, hq0, trivial, ⟨(pvow_2_18 hq0).1, (by rw [(pvow_2_18 hq0).2.1]; exact (zr_in (n := 10) b87_ (by decide) (by decide)))⟩, trivial, trivial, trivial, trivial⟩ ?_
          have j99_ : Int32.toInt i5z80_ ≤ 3 + 99 * Int32.toInt (i7z80_ + 1) := by omega
          have j100_ : -(99 * Int32.toInt (i7z80_ + 1)) ≤ Int32.toInt i5z80_ := by omega
          exact ihz80_ i5z80_ (M2_.1 (q0 + 18) (Int32.toNatClampNeg i7z80_)) (i7z80_ + 1) h5z80_ b89_ (zr_wide b97_ (by decide) (by decide)) j99_ j100_ (zhid (pvms_up (zshow hmz80_) h7z80_ q98_ (by decide) (by decide)))
        · have b101_ : 1 ≤ Int32.toInt x90_ ∧ Int32.toInt x90_ ≤ 1 := (by have u0 := b92_; have u1 := (not_congr (zi_eq _ _)).mp c95_; have u2 := (show 0 ≤ Int32.toInt 0 ∧ Int32.toInt 0 ≤ 0 from (by decide)); omega)
          have b102_ : (-99) ≤ Int32.toInt (M2_.1 (q0 + 9) (Int32.toNatClampNeg i7z80_)) ∧ Int32.toInt (M2_.1 (q0 + 9) (Int32.toNatClampNeg i7z80_)) ≤ 99 := pvok_r o4_ (q0 + 9) (Int32.toNatClampNeg i7z80_) ((pvrg_a _ (by rw [(pvow_2_9 hq0).1]; decide)).trans (pvow_2_9 hq0).2.2.2)
          obtain ⟨q104_, b103_⟩ : (Int32.toInt (i5z80_ + (M2_.1 (q0 + 9) (Int32.toNatClampNeg i7z80_))) = Int32.toInt i5z80_ + Int32.toInt (M2_.1 (q0 + 9) (Int32.toNatClampNeg i7z80_))) ∧ ((-1099) ≤ Int32.toInt (i5z80_ + (M2_.1 (q0 + 9) (Int32.toNatClampNeg i7z80_))) ∧ Int32.toInt (i5z80_ + (M2_.1 (q0 + 9) (Int32.toNatClampNeg i7z80_))) ≤ 1099) := zadd_r i5z80_ (M2_.1 (q0 + 9) (Int32.toNatClampNeg i7z80_)) (-1099) 1099 h5z80_ b102_ (by decide) (by decide) (by decide) (by decide)
          obtain ⟨q106_, b105_⟩ : (Int32.toInt (i7z80_ + 1) = Int32.toInt i7z80_ + 1) ∧ (1 ≤ Int32.toInt (i7z80_ + 1) ∧ Int32.toInt (i7z80_ + 1) ≤ 10) := zadd_k i7z80_ 1 1 1 10 b87_ (by decide) (by decide) (by decide) (by decide) (by decide)
          refine pw_blk hT 14 (S' := (18, [some (pvR q0), some (pvR q1), some (pvI n2), some (pvI n3), some (pvI n4), some (pvI (i5z80_ + (M2_.1 (q0 + 9) (Int32.toNatClampNeg i7z80_)))), some (pvI (M2_.1 (q0 + 18) (Int32.toNatClampNeg i7z80_))), some (pvI (i7z80_ + 1))], [], M2_)) rfl ⟨trivial, trivial, hq0, trivial, ⟨(pvow_2_9 hq0).1, (by rw [(pvow_2_9 hq0).2.1]; exact (zr_in (n := 10) b87_ (by decide) (by decide)))⟩, trivial, trivial, trivial, hq0, trivial, ⟨(pvow_2_18 hq0).1, (by rw [(pvow_2_18 hq0).2.1]; exact (zr_in (n := 10) b87_ (by decide) (by decide)))⟩, trivial, trivial, trivial, trivial⟩ ?_
          have j107_ : Int32.toInt (i5z80_ + (M2_.1 (q0 + 9) (Int32.toNatClampNeg i7z80_))) ≤ 3 + 99 * Int32.toInt (i7z80_ + 1) := by omega
          have j108_ : -(99 * Int32.toInt (i7z80_ + 1)) ≤ Int32.toInt (i5z80_ + (M2_.1 (q0 + 9) (Int32.toNatClampNeg i7z80_))) := by omega
          exact ihz80_ (i5z80_ + (M2_.1 (q0 + 9) (Int32.toNatClampNeg i7z80_))) (M2_.1 (q0 + 18) (Int32.toNatClampNeg i7z80_)) (i7z80_ + 1) (by have u0 := b103_; omega) b89_ (zr_wide b105_ (by decide) (by decide)) j107_ j108_ (zhid (pvms_up (zshow hmz80_) h7z80_ q106_ (by decide) (by decide)))
  have u109_ : Int32.toInt 3 = 3 := by decide
  have u110_ : Int32.toInt 0 = 0 := by decide
  have j111_ : Int32.toInt 3 ≤ 3 + 99 * Int32.toInt 0 := by omega
  have j112_ : -(99 * Int32.toInt 0) ≤ Int32.toInt 3 := by omega
  exact hlz80_ _ 3 0 0 (zr_wide (show 3 ≤ Int32.toInt 3 ∧ Int32.toInt 3 ≤ 3 from (by decide)) (by decide) (by decide)) (zr_wide (show 0 ≤ Int32.toInt 0 ∧ Int32.toInt 0 ≤ 0 from (by decide)) (by decide) (by decide)) (zr_wide (show 0 ≤ Int32.toInt 0 ∧ Int32.toInt 0 ≤ 0 from (by decide)) (by decide) (by decide)) j111_ j112_ (zhid (Nat.lt_succ_self _))
set_option maxHeartbeats 4000000 in
set_option maxRecDepth 10000 in
theorem sf_X4_harmBy_x_x_x (M : pvM) (hok : pvOk M) (q0 : Nat) (n1 : Int32) (n2 : Int32) (hq0 : pvkl q0 = 3) (hn1 : 0 ≤ Int32.toInt n1 ∧ Int32.toInt n1 ≤ 1000) (d : Nat) : PW 135 d (0, [some (pvR q0), some (pvI n1), some (pvI n2)], [], M) (fun r X => (∃ x : Int32, r = some (pvI x) ∧ 0 ≤ Int32.toInt x ∧ Int32.toInt x ≤ 2000) ∧ X = M) := by
  have hT : pvdom 135 = pvD_135 := rfl
  have b1_ : 0 ≤ Int32.toInt (M.1 q0 0) ∧ Int32.toInt (M.1 q0 0) ≤ 6 := pvok_r hok q0 0 ((pvrg_o 0 hq0 (by decide) (by decide)).trans rfl)
  refine pw_blk hT 2 (S' := (4, [some (pvR q0), some (pvI n1), some (pvI n2)], [pvI (M.1 q0 0)], M)) rfl ⟨trivial, hq0, trivial⟩ ?_
  refine pw_sw hT rfl rfl ?_
  refine And.intro (fun c2_ => ?_) (fun c2_ => ?_)
  · show PW 135 d (40, [some (pvR q0), some (pvI n1), some (pvI n2)], [], M) _
    have b3_ : 2 ≤ Int32.toInt (M.1 q0 0) ∧ Int32.toInt (M.1 q0 0) ≤ 2 := (by have u0 := b1_; have u1 := (zi_eq _ _).mp c2_; have u2 := (show 2 ≤ Int32.toInt 2 ∧ Int32.toInt 2 ≤ 2 from (by decide)); omega)
    have q4_ : Int32.toInt (n1 / 2) = Int32.toInt n1 / 2 := by have u0 := hn1; have u := zdiv_p n1 2 (by omega) (by decide) (by decide); have e0 : nI 2 = (2 : Int32) := rfl; rw [e0] at u; omega
    have b5_ : 0 ≤ Int32.toInt (n1 / 2) ∧ Int32.toInt (n1 / 2) ≤ 500 := (by have u0 := hn1; omega)
    refine pw_blk hT 3 (S' := (43, [some (pvR q0), some (pvI n1), some (pvI n2)], [pvI (n1 / 2)], M)) rfl ⟨trivial, trivial, (by decide), trivial⟩ ?_
    exact pw_ret hT rfl (r := some (pvI (n1 / 2))) (M' := M) ⟨rfl, rfl⟩ ⟨⟨_, rfl, (zr_wide b5_ (by decide) (by decide))⟩, rfl⟩
  · refine And.intro (fun c6_ => ?_) (fun c6_ => ?_)
    · show PW 135 d (62, [some (pvR q0), some (pvI n1), some (pvI n2)], [], M) _
      have b7_ : 3 ≤ Int32.toInt (M.1 q0 0) ∧ Int32.toInt (M.1 q0 0) ≤ 3 := (by have u0 := b1_; have u1 := (zi_eq _ _).mp c6_; have u2 := (show 3 ≤ Int32.toInt 3 ∧ Int32.toInt 3 ≤ 3 from (by decide)); omega)
      have q8_ : Int32.toInt (2 * n1) = 2 * Int32.toInt n1 := by have u0 : Int32.toInt 2 = 2 := (by decide); have u1 := hn1; have u2 := zmul 2 n1 (by rw [u0]; omega) (by rw [u0]; omega); rw [u0] at u2; omega
      have b9_ : 0 ≤ Int32.toInt (2 * n1) ∧ Int32.toInt (2 * n1) ≤ 2000 := (by have u1 := hn1; omega)
      refine pw_blk hT 3 (S' := (65, [some (pvR q0), some (pvI n1), some (pvI n2)], [pvI (2 * n1)], M)) rfl ⟨trivial, trivial, trivial, trivial⟩ ?_
      exact pw_ret hT rfl (r := some (pvI (2 * n1))) (M' := M) ⟨rfl, rfl⟩ ⟨⟨_, rfl, b9_⟩, rfl⟩
    · refine And.intro (fun c10_ => ?_) (fun c10_ => ?_)
      · show PW 135 d (66, [some (pvR q0), some (pvI n1), some (pvI n2)], [], M) _
        have b11_ : 4 ≤ Int32.toInt (M.1 q0 0) ∧ Int32.toInt (M.1 q0 0) ≤ 4 := (by have u0 := b1_; have u1 := (zi_eq _ _).mp c10_; have u2 := (show 4 ≤ Int32.toInt 4 ∧ Int32.toInt 4 ≤ 4 from (by decide)); omega)
        refine pw_blk hT 1 (S' := (67, [some (pvR q0), some (pvI n1), some (pvI n2)], [pvI n1], M)) rfl ⟨trivial, trivial⟩ ?_
        exact pw_ret hT rfl (r := some (pvI n1)) (M' := M) ⟨rfl, rfl⟩ ⟨⟨_, rfl, (zr_wide hn1 (by decide) (by decide))⟩, rfl⟩
      · refine And.intro (fun c12_ => ?_) (fun c12_ => ?_)
        · show PW 135 d (44, [some (pvR q0), some (pvI n1), some (pvI n2)], [], M) _
          have b13_ : 5 ≤ Int32.toInt (M.1 q0 0) ∧ Int32.toInt (M.1 q0 0) ≤ 5 := (by have u0 := b1_; have u1 := (zi_eq _ _).mp c12_; have u2 := (show 5 ≤ Int32.toInt 5 ∧ Int32.toInt 5 ≤ 5 from (by decide)); omega)
          have b14_ : 0 ≤ Int32.toInt (M.1 q0 1) ∧ Int32.toInt (M.1 q0 1) ≤ 9 := pvok_r hok q0 1 ((pvrg_o 1 hq0 (by decide) (by decide)).trans rfl)
          have b15_ : 0 ≤ Int32.toInt ((M.1 q0 1) - (M.1 q0 1) / 4 * 4) ∧ Int32.toInt ((M.1 q0 1) - (M.1 q0 1) / 4 * 4) ≤ 3 := (by have u0 := b14_; have u := zrem_p (M.1 q0 1) 4 (by omega) (by decide) (by decide); have e0 : nI 4 = (4 : Int32) := rfl; rw [e0] at u; omega)
          refine pw_blk hT 5 (S' := (51, [some (pvR q0), some (pvI n1), some (pvI n2)], [pvI ((M.1 q0 1) - (M.1 q0 1) / 4 * 4), pvI n2], M)) rfl ⟨trivial, trivial, hq0, trivial, (by decide), trivial⟩ ?_
          refine pw_icn hT (c := n2 = ((M.1 q0 1) - (M.1 q0 1) / 4 * 4)) rfl rfl (fun c16_ => ?_) (fun c16_ => ?_)
          · refine pw_blk hT 1 (S' := (61, [some (pvR q0), some (pvI n1), some (pvI n2)], [pvI 0], M)) rfl ⟨trivial, trivial⟩ ?_
            exact pw_ret hT rfl (r := some (pvI 0)) (M' := M) ⟨rfl, rfl⟩ ⟨⟨_, rfl, (zr_wide (show 0 ≤ Int32.toInt 0 ∧ Int32.toInt 0 ≤ 0 from (by decide)) (by decide) (by decide))⟩, rfl⟩
          · have b17_ : 0 ≤ Int32.toInt n2 ∧ Int32.toInt n2 ≤ 3 := (by have u0 := (zbnd n2); have u1 := (zi_eq _ _).mp c16_; have u2 := b15_; omega)
            have d18_ : Int32.toInt n2 = Int32.toInt ((M.1 q0 1) - (M.1 q0 1) / 4 * 4) := (zi_eq _ _).mp c16_
            have q19_ : Int32.toInt (n1 / 2) = Int32.toInt n1 / 2 := by have u0 := hn1; have u := zdiv_p n1 2 (by omega) (by decide) (by decide); have e0 : nI 2 = (2 : Int32) := rfl; rw [e0] at u; omega
            have b20_ : 0 ≤ Int32.toInt (n1 / 2) ∧ Int32.toInt (n1 / 2) ≤ 500 := (by have u0 := hn1; omega)
            refine pw_blk hT 4 (S' := (61, [some (pvR q0), some (pvI n1), some (pvI n2)], [pvI (n1 / 2)], M)) rfl ⟨trivial, trivial, (by decide), trivial, trivial⟩ ?_
            exact pw_ret hT rfl (r := some (pvI (n1 / 2))) (M' := M) ⟨rfl, rfl⟩ ⟨⟨_, rfl, (zr_wide b20_ (by decide) (by decide))⟩, rfl⟩
        · refine And.intro (fun c21_ => ?_) (fun c21_ => ?_)
          · show PW 135 d (62, [some (pvR q0), some (pvI n1), some (pvI n2)], [], M) _
            have b22_ : 6 ≤ Int32.toInt (M.1 q0 0) ∧ Int32.toInt (M.1 q0 0) ≤ 6 := (by have u0 := b1_; have u1 := (zi_eq _ _).mp c21_; have u2 := (show 6 ≤ Int32.toInt 6 ∧ Int32.toInt 6 ≤ 6 from (by decide)); omega)
            have q23_ : Int32.toInt (2 * n1) = 2 * Int32.toInt n1 := by have u0 : Int32.toInt 2 = 2 := (by decide); have u1 := hn1; have u2 := zmul 2 n1 (by rw [u0]; omega) (by rw [u0]; omega); rw [u0] at u2; omega
            have b24_ : 0 ≤ Int32.toInt (2 * n1) ∧ Int32.toInt (2 * n1) ≤ 2000 := (by have u1 := hn1; omega)
            refine pw_blk hT 3 (S' := (65, [some (pvR q0), some (pvI n1), some (pvI n2)], [pvI (2 * n1)], M)) rfl ⟨trivial, trivial, trivial, trivial⟩ ?_
            exact pw_ret hT rfl (r := some (pvI (2 * n1))) (M' := M) ⟨rfl, rfl⟩ ⟨⟨_, rfl, b24_⟩, rfl⟩
          · have b25_ : 0 ≤ Int32.toInt (M.1 q0 0) ∧ Int32.toInt (M.1 q0 0) ≤ 1 := (by have u0 := b1_; have u9 := (show _ ∧ _ from ⟨(not_congr (zi_eq _ _)).mp c21_, (show 6 ≤ Int32.toInt 6 ∧ Int32.toInt 6 ≤ 6 from (by decide))⟩); have v1 := (not_congr (zi_eq _ _)).mp c12_; have w1 : (5 : Int32).toInt = 5 := (by decide); have v2 := (not_congr (zi_eq _ _)).mp c10_; have w2 : (4 : Int32).toInt = 4 := (by decide); have v3 := (not_congr (zi_eq _ _)).mp c6_; have w3 : (3 : Int32).toInt = 3 := (by decide); have v4 := (not_congr (zi_eq _ _)).mp c2_; have w4 : (2 : Int32).toInt = 2 := (by decide); omega)
            show PW 135 d (66, [some (pvR q0), some (pvI n1), some (pvI n2)], [], M) _
            refine pw_blk hT 1 (S' := (67, [some (pvR q0), some (pvI n1), some (pvI n2)], [pvI n1], M)) rfl ⟨trivial, trivial⟩ ?_
            exact pw_ret hT rfl (r := some (pvI n1)) (M' := M) ⟨rfl, rfl⟩ ⟨⟨_, rfl, (zr_wide hn1 (by decide) (by decide))⟩, rfl⟩
def fpL_X1_sumUp_5_x : List (Nat × Nat × Nat) := [(0, 13, 0), (1, 112, 0)]
def fp_X1_sumUp_5_x (q k : Nat) : Bool := pvfp fpL_X1_sumUp_5_x q k
theorem fp_X1_sumUp_5_x_fp_X2_rainOn_x_x_x_x_x (a b : Nat) (h : fp_X2_rainOn_x_x_x_x_x a b = true) : fp_X1_sumUp_5_x a b = true := pvfp_sub (l1 := fpL_X2_rainOn_x_x_x_x_x) (l2 := fpL_X1_sumUp_5_x) (by decide) a b h
set_option maxHeartbeats 4000000 in
set_option maxRecDepth 10000 in
theorem sf_X1_sumUp_5_x (M : pvM) (hok : pvOk M) (n1 : Int32) (hn1 : 0 ≤ Int32.toInt n1 ∧ Int32.toInt n1 ≤ 6) (d : Nat) : PW 121 d (0, [some (pvR 5), some (pvI n1), none, none, none], [], M) (fun r X => r = none ∧ pvOk X ∧ pvFr fp_X1_sumUp_5_x M X) := by
  have hT : pvdom 121 = pvD_121 := rfl
  refine pw_blkr hT 5 (pc := 9) (lo := [some (pvR 5), some (pvI n1), none, none, none]) (st := []) (M := M) (z := (pvbs 10 + Int32.toNatClampNeg n1)) rfl ⟨trivial, rfl, rfl, trivial, ⟨rfl, (zr_in (n := 7) hn1 (by decide) (by decide))⟩, trivial⟩ (fun q1_ e3_ => ?_)
  have k2_ : pvkl q1_ = 3 := pvel_10 (zr_in (n := 7) hn1 (by decide) (by decide)) e3_
  refine pw_blk hT 5 (S' := (15, [some (pvR 5), some (pvI n1), some (pvR q1_), some (pvI 0), some (pvI 0)], [], M)) rfl ⟨trivial, trivial, trivial, trivial, trivial, trivial⟩ ?_
  have hlz178_ : ∀ (nz178_ : Nat) (i3z178_ : Int32) (i4z178_ : Int32) (Mz178_ : pvM), (pvOk Mz178_) → (pvFr fp_X1_sumUp_5_x M Mz178_) → (0 ≤ Int32.toInt i3z178_ ∧ Int32.toInt i3z178_ ≤ 200000) → (0 ≤ Int32.toInt i4z178_ ∧ Int32.toInt i4z178_ ≤ 100) → (Int32.toInt i3z178_ ≤ 2000 * Int32.toInt i4z178_) → (0 ≤ Int32.toInt i3z178_) → (zhide ((101 - Int32.toInt i4z178_).toNat < nz178_)) → PW 121 d (15, [some (pvR 5), some (pvI n1), some (pvR q1_), some (pvI i3z178_), some (pvI i4z178_)], [], Mz178_) (fun r X => r = none ∧ pvOk X ∧ pvFr fp_X1_sumUp_5_x M X) := by
    intro nz178_
    induction nz178_ with
    | zero => intro i3z178_ i4z178_ Mz178_ oz178_ fz178_ h3z178_ h4z178_ j0z178_ j1z178_ hmz178_; exact absurd (zshow hmz178_) (Nat.not_lt_zero _)
    | succ nz178_ ihz178_ =>
      intro i3z178_ i4z178_ Mz178_ oz178_ fz178_ h3z178_ h4z178_ j0z178_ j1z178_ hmz178_
      refine pw_blk hT 2 (S' := (19, [some (pvR 5), some (pvI n1), some (pvR q1_), some (pvI i3z178_), some (pvI i4z178_)], [pvI 100, pvI i4z178_], Mz178_)) rfl ⟨trivial, trivial, trivial⟩ ?_
      refine pw_ic hT (c := 100 ≤ i4z178_) rfl rfl (fun c179_ => ?_) (fun c179_ => ?_)
      · have b180_ : 100 ≤ Int32.toInt i4z178_ ∧ Int32.toInt i4z178_ ≤ 100 := zr_le_r 100 c179_ h4z178_ (show 100 ≤ Int32.toInt 100 ∧ Int32.toInt 100 ≤ 100 from (by decide)) (by decide)
        exact pw_ret hT rfl (r := none) (M' := Mz178_) ⟨rfl, rfl⟩ ⟨rfl, oz178_, fz178_⟩
      · have b181_ : 0 ≤ Int32.toInt i4z178_ ∧ Int32.toInt i4z178_ ≤ 99 := zr_nle_r 99 c179_ h4z178_ (show 100 ≤ Int32.toInt 100 ∧ Int32.toInt 100 ≤ 100 from (by decide)) (by decide)
        refine pw_blk hT 5 (S' := (30, [some (pvR 5), some (pvI n1), some (pvR q1_), some (pvI i3z178_), some (pvI i4z178_)], [pvI i4z178_, pvI n1, pvR 5, pvR 13], Mz178_)) rfl ⟨trivial, rfl, trivial, trivial, trivial, trivial⟩ ?_
        refine pw_callGp hT (as := [pvR 5, pvI n1, pvI i4z178_]) (lo1 := [some (pvR 5), some (pvI n1), some (pvI i4z178_)]) (d1 := d) (rest := [pvR 13]) rfl rfl rfl rfl rfl (fun _ => rfl) (Nat.zero_le _) rfl rfl rfl (sf_X1_sumPlace_5_x_x Mz178_ oz178_ n1 i4z178_ hn1 d) (fun x182_ b184_ => ?_)
        refine pw_blkw hT 2 (pc := 35) (lo := [some (pvR 5), some (pvI n1), some (pvR q1_), some (pvI i3z178_), some (pvI i4z178_)]) (st := []) (M := pvu Mz178_ 13 (Int32.toNatClampNeg x182_) i3z178_) rfl ⟨trivial, ⟨rfl, (zr_in (n := 2800) b184_ (by decide) (by decide))⟩, trivial⟩ (fun M187_ e188_ => ?_)
        have o189_ : pvOk M187_ := pvok_u2 e188_ oz178_ rfl (zr_wide h3z178_ (by decide) (by decide))
        have f190_ : pvFr fp_X1_sumUp_5_x M M187_ := pvfr_u e188_ fz178_ rfl
        have b191_ : 15 ≤ Int32.toInt (M187_.1 8 8) ∧ Int32.toInt (M187_.1 8 8) ≤ 23 := pvok_r o189_ 8 8 rfl
        refine pw_blkr hT 4 (pc := 44) (lo := [some (pvR 5), some (pvI n1), some (pvR q1_), some (pvI i3z178_), some (pvI i4z178_)]) (st := [pvI i4z178_]) (M := M187_) (z := (pvhp (M187_.1 8 8))) rfl ⟨trivial, trivial, rfl, rfl, trivial⟩ (fun q192_ e194_ => ?_)
        have k193_ : pvkl q192_ = 2 := pvhp_k b191_ e194_
        have b195_ : 0 ≤ Int32.toInt (M187_.1 q192_ 1) ∧ Int32.toInt (M187_.1 q192_ 1) ≤ 99 := pvok_r o189_ q192_ 1 ((pvrg_o 1 k193_ (by decide) (by decide)).trans rfl)
        refine pw_blk hT 1 (S' := (47, [some (pvR 5), some (pvI n1), some (pvR q1_), some (pvI i3z178_), some (pvI i4z178_)], [pvI (M187_.1 q192_ 1), pvI i4z178_], M187_)) rfl ⟨k193_, trivial⟩ ?_
        refine pw_ic hT (c := i4z178_ < (M187_.1 q192_ 1)) rfl rfl (fun c196_ => ?_) (fun c196_ => ?_)
        · have b197_ : 0 ≤ Int32.toInt i4z178_ ∧ Int32.toInt i4z178_ ≤ 98 := zr_lt_l 98 c196_ b181_ b195_ (by decide)
          have b198_ : 1 ≤ Int32.toInt (M187_.1 q192_ 1) ∧ Int32.toInt (M187_.1 q192_ 1) ≤ 99 := zr_lt_r 1 c196_ b195_ b197_ (by decide)
          have d199_ : Int32.toInt i4z178_ < Int32.toInt (M187_.1 q192_ 1) := (zi_lt _ _).mp c196_
          refine pw_blkr hT 5 (pc := 62) (lo := [some (pvR 5), some (pvI n1), some (pvR q1_), some (pvI i3z178_), some (pvI i4z178_)]) (st := [pvR q1_, pvI i3z178_]) (M := M187_) (z := (pvhp (M187_.1 8 8))) rfl ⟨trivial, trivial, trivial, rfl, rfl, trivial⟩ (fun q200_ e202_ => ?_)
          have k201_ : pvkl q200_ = 2 := pvhp_k b191_ e202_
          have b203_ : 0 ≤ Int32.toInt (M187_.1 5 1) ∧ Int32.toInt (M187_.1 5 1) ≤ 3 := pvok_r o189_ 5 1 rfl
          refine pw_blk hT 5 (S' := (70, [some (pvR 5), some (pvI n1), some (pvR q1_), some (pvI i3z178_), some (pvI i4z178_)], [pvI i4z178_, pvI (M187_.1 5 1), pvI n1, pvR q1_, pvR q200_, pvR q1_, pvI i3z178_], M187_)) rfl ⟨trivial, trivial, trivial, rfl, trivial, trivial⟩ ?_
          refine pw_callG hT (as := [pvR q200_, pvR q1_, pvI n1, pvI (M187_.1 5 1), pvI i4z178_]) (lo1 := [some (pvR q200_), some (pvR q1_), some (pvI n1), some (pvI (M187_.1 5 1)), some (pvI i4z178_), none, none, none]) (d1 := d) (rest := [pvR q1_, pvI i3z178_]) rfl rfl rfl rfl rfl (fun _ => k201_) (Nat.zero_le _) rfl rfl rfl (sf_X2_rainOn_x_x_x_x_x M187_ o189_ q200_ q1_ n1 (M187_.1 5 1) i4z178_ k201_ k2_ hn1 b203_ (zr_wide b197_ (by decide) (by decide)) d) (fun x204_ M205_ b206_ o207_ g208_ => ?_)
          have f209_ : pvFr fp_X1_sumUp_5_x M M205_ := pvfr_t g208_ f190_ fp_X1_sumUp_5_x_fp_X2_rainOn_x_x_x_x_x
          have b210_ : 0 ≤ Int32.toInt (M205_.1 5 1) ∧ Int32.toInt (M205_.1 5 1) ≤ 3 := pvok_r o207_ 5 1 rfl
          refine pw_blk hT 2 (S' := (77, [some (pvR 5), some (pvI n1), some (pvR q1_), some (pvI i3z178_), some (pvI i4z178_)], [pvI (M205_.1 5 1), pvI x204_, pvR q1_, pvI i3z178_], M205_)) rfl ⟨trivial, rfl, trivial⟩ ?_
          refine pw_callGp hT (as := [pvR q1_, pvI x204_, pvI (M205_.1 5 1)]) (lo1 := [some (pvR q1_), some (pvI x204_), some (pvI (M205_.1 5 1))]) (d1 := d) (rest := [pvI i3z178_]) rfl rfl rfl rfl rfl (fun _ => k2_) (Nat.zero_le _) rfl rfl rfl (sf_X4_harmBy_x_x_x M205_ o207_ q1_ x204_ (M205_.1 5 1) k2_ b206_ d) (fun x211_ b213_ => ?_)
          obtain ⟨q217_, b216_⟩ : (Int32.toInt (i3z178_ + x211_) = Int32.toInt i3z178_ + Int32.toInt x211_) ∧ (0 ≤ Int32.toInt (i3z178_ + x211_) ∧ Int32.toInt (i3z178_ + x211_) ≤ 202000) := zadd_r i3z178_ x211_ 0 202000 h3z178_ b213_ (by decide) (by decide) (by decide) (by decide)
          obtain ⟨q219_, b218_⟩ : (Int32.toInt (i4z178_ + 1) = Int32.toInt i4z178_ + 1) ∧ (1 ≤ Int32.toInt (i4z178_ + 1) ∧ Int32.toInt (i4z178_ + 1) ≤ 99) := zadd_k i4z178_ 1 1 1 99 b197_ (by decide) (by decide) (by decide) (by decide) (by decide)
          refine pw_blk hT 4 (S' := (15, [some (pvR 5), some (pvI n1), some (pvR q1_), some (pvI (i3z178_ + x211_)), some (pvI (i4z178_ + 1))], [], M205_)) rfl ⟨trivial, trivial, trivial, trivial, trivial⟩ ?_
          have j220_ : Int32.toInt (i3z178_ + x211_) ≤ 2000 * Int32.toInt (i4z178_ + 1) := by omega
          have j221_ : 0 ≤ Int32.toInt (i3z178_ + x211_) := by omega
          exact ihz178_ (i3z178_ + x211_) (i4z178_ + 1) M205_ o207_ f209_ (by have u0 := b216_; omega) (zr_wide b218_ (by decide) (by decide)) j220_ j221_ (zhid (pvms_up (zshow hmz178_) h4z178_ q219_ (by decide) (by decide)))
        · have d222_ : Int32.toInt i4z178_ ≥ Int32.toInt (M187_.1 q192_ 1) := Int.not_lt.mp ((not_congr (zi_lt _ _)).mp c196_)
          obtain ⟨q224_, b223_⟩ : (Int32.toInt (i4z178_ + 1) = Int32.toInt i4z178_ + 1) ∧ (1 ≤ Int32.toInt (i4z178_ + 1) ∧ Int32.toInt (i4z178_ + 1) ≤ 100) := zadd_k i4z178_ 1 1 1 100 b181_ (by decide) (by decide) (by decide) (by decide) (by decide)
          refine pw_blk hT 3 (S' := (15, [some (pvR 5), some (pvI n1), some (pvR q1_), some (pvI i3z178_), some (pvI (i4z178_ + 1))], [], M187_)) rfl ⟨trivial, trivial, trivial, trivial⟩ ?_
          have j225_ : Int32.toInt i3z178_ ≤ 2000 * Int32.toInt (i4z178_ + 1) := by omega
          have j226_ : 0 ≤ Int32.toInt i3z178_ := by omega
          exact ihz178_ i3z178_ (i4z178_ + 1) M187_ o189_ f190_ h3z178_ (zr_wide b223_ (by decide) (by decide)) j225_ j226_ (zhid (pvms_up (zshow hmz178_) h4z178_ q224_ (by decide) (by decide)))
  have u227_ : Int32.toInt 0 = 0 := by decide
  have j228_ : Int32.toInt 0 ≤ 2000 * Int32.toInt 0 := by omega
  have j229_ : 0 ≤ Int32.toInt 0 := by omega
  exact hlz178_ _ 0 0 M hok pvfr_0 (zr_wide (show 0 ≤ Int32.toInt 0 ∧ Int32.toInt 0 ≤ 0 from (by decide)) (by decide) (by decide)) (zr_wide (show 0 ≤ Int32.toInt 0 ∧ Int32.toInt 0 ≤ 0 from (by decide)) (by decide) (by decide)) j228_ j229_ (zhid (Nat.lt_succ_self _))
def fpL_X1_turnTo_5_x : List (Nat × Nat × Nat) := [(0, 13, 0), (0, 14, 0), (0, 5, 2), (1, 112, 0)]
def fp_X1_turnTo_5_x (q k : Nat) : Bool := pvfp fpL_X1_turnTo_5_x q k
theorem fp_X1_turnTo_5_x_fp_X1_sumUp_5_x (a b : Nat) (h : fp_X1_sumUp_5_x a b = true) : fp_X1_turnTo_5_x a b = true := pvfp_sub (l1 := fpL_X1_sumUp_5_x) (l2 := fpL_X1_turnTo_5_x) (by decide) a b h
set_option maxHeartbeats 4000000 in
set_option maxRecDepth 10000 in
theorem sf_X1_turnTo_5_x (M : pvM) (hok : pvOk M) (n1 : Int32) (d : Nat) : PW 122 d (0, [some (pvR 5), some (pvI n1), none], [], M) (fun r X => r = none ∧ pvOk X ∧ pvFr fp_X1_turnTo_5_x M X) := by
  have hT : pvdom 122 = pvD_122 := rfl
  refine pw_blk hT 1 (S' := (1, [some (pvR 5), some (pvI n1), none], [pvI n1], M)) rfl ⟨trivial, trivial⟩ ?_
  refine pw_if hT (c := n1 < 0) rfl rfl (fun c1_ => ?_) (fun c1_ => ?_)
  · have b2_ : (-2147483648) ≤ Int32.toInt n1 ∧ Int32.toInt n1 ≤ (-1) := zr_lt_l (-1) c1_ (zbnd n1) (show 0 ≤ Int32.toInt 0 ∧ Int32.toInt 0 ≤ 0 from (by decide)) (by decide)
    exact pw_ret hT rfl (r := none) (M' := M) ⟨rfl, rfl⟩ ⟨rfl, hok, pvfr_0⟩
  · have b3_ : 0 ≤ Int32.toInt n1 ∧ Int32.toInt n1 ≤ 2147483647 := zr_nlt_l 0 c1_ (zbnd n1) (show 0 ≤ Int32.toInt 0 ∧ Int32.toInt 0 ≤ 0 from (by decide)) (by decide)
    refine pw_blk hT 2 (S' := (6, [some (pvR 5), some (pvI n1), none], [pvI 4, pvI n1], M)) rfl ⟨trivial, trivial, trivial⟩ ?_
    refine pw_ic hT (c := n1 < 4) rfl rfl (fun c4_ => ?_) (fun c4_ => ?_)
    · have b5_ : 0 ≤ Int32.toInt n1 ∧ Int32.toInt n1 ≤ 3 := zr_lt_l 3 c4_ b3_ (show 4 ≤ Int32.toInt 4 ∧ Int32.toInt 4 ≤ 4 from (by decide)) (by decide)
      refine pw_blkw hT 3 (pc := 15) (lo := [some (pvR 5), some (pvI n1), none]) (st := []) (M := pvu M 5 1 n1) rfl ⟨trivial, trivial, rfl, trivial⟩ (fun M6_ e7_ => ?_)
      have o8_ : pvOk M6_ := pvok_u2 e7_ hok rfl b5_
      have f9_ : pvFr fp_X1_turnTo_5_x M M6_ := pvfr_u e7_ pvfr_0 rfl
      have b10_ : 0 ≤ Int32.toInt (M6_.1 5 1) ∧ Int32.toInt (M6_.1 5 1) ≤ 3 := pvok_r o8_ 5 1 rfl
      have b11_ : 0 ≤ Int32.toInt (M6_.1 14 (Int32.toNatClampNeg (M6_.1 5 1))) ∧ Int32.toInt (M6_.1 14 (Int32.toNatClampNeg (M6_.1 5 1))) ≤ 1 := pvok_r o8_ 14 (Int32.toNatClampNeg (M6_.1 5 1)) rfl
      refine pw_blk hT 5 (S' := (24, [some (pvR 5), some (pvI n1), none], [pvI (M6_.1 14 (Int32.toNatClampNeg (M6_.1 5 1)))], M6_)) rfl ⟨trivial, rfl, trivial, rfl, ⟨rfl, (zr_in (n := 4) b10_ (by decide) (by decide))⟩, trivial⟩ ?_
      refine pw_if hT (c := (M6_.1 14 (Int32.toNatClampNeg (M6_.1 5 1))) = 0) rfl rfl (fun c12_ => ?_) (fun c12_ => ?_)
      · have b13_ : 0 ≤ Int32.toInt (M6_.1 14 (Int32.toNatClampNeg (M6_.1 5 1))) ∧ Int32.toInt (M6_.1 14 (Int32.toNatClampNeg (M6_.1 5 1))) ≤ 0 := (by have u0 := b11_; have u1 := (zi_eq _ _).mp c12_; have u2 := (show 0 ≤ Int32.toInt 0 ∧ Int32.toInt 0 ≤ 0 from (by decide)); omega)
        refine pw_blk hT 2 (S' := (30, [some (pvR 5), some (pvI n1), some (pvI 0)], [], M6_)) rfl ⟨trivial, trivial, trivial⟩ ?_
        have hlz93_ : ∀ (nz93_ : Nat) (i2z93_ : Int32) (Mz93_ : pvM), (pvOk Mz93_) → (pvFr fp_X1_turnTo_5_x M Mz93_) → (0 ≤ Int32.toInt i2z93_ ∧ Int32.toInt i2z93_ ≤ 7) → (zhide ((8 - Int32.toInt i2z93_).toNat < nz93_)) → PW 122 d (30, [some (pvR 5), some (pvI n1), some (pvI i2z93_)], [], Mz93_) (fun r X => r = none ∧ pvOk X ∧ pvFr fp_X1_turnTo_5_x M X) := by
          intro nz93_
          induction nz93_ with
          | zero => intro i2z93_ Mz93_ oz93_ fz93_ h2z93_ hmz93_; exact absurd (zshow hmz93_) (Nat.not_lt_zero _)
          | succ nz93_ ihz93_ =>
            intro i2z93_ Mz93_ oz93_ fz93_ h2z93_ hmz93_
            have b94_ : 0 ≤ Int32.toInt (Mz93_.1 8 1) ∧ Int32.toInt (Mz93_.1 8 1) ≤ 7 := pvok_r oz93_ 8 1 rfl
            refine pw_blk hT 4 (S' := (38, [some (pvR 5), some (pvI n1), some (pvI i2z93_)], [pvI (Mz93_.1 8 1), pvI i2z93_], Mz93_)) rfl ⟨trivial, trivial, rfl, rfl, trivial⟩ ?_
            refine pw_ic hT (c := (Mz93_.1 8 1) ≤ i2z93_) rfl rfl (fun c95_ => ?_) (fun c95_ => ?_)
            · have d96_ : Int32.toInt (Mz93_.1 8 1) ≤ Int32.toInt i2z93_ := (zi_le _ _).mp c95_
              have b97_ : 0 ≤ Int32.toInt (Mz93_.1 5 1) ∧ Int32.toInt (Mz93_.1 5 1) ≤ 3 := pvok_r oz93_ 5 1 rfl
              refine pw_blkw hT 6 (pc := 62) (lo := [some (pvR 5), some (pvI n1), some (pvI i2z93_)]) (st := []) (M := pvu Mz93_ 14 (Int32.toNatClampNeg (Mz93_.1 5 1)) (vp_nar .boolean 1)) rfl ⟨trivial, rfl, trivial, rfl, trivial, ⟨rfl, (zr_in (n := 4) b97_ (by decide) (by decide))⟩, trivial⟩ (fun M98_ e99_ => ?_)
              have o100_ : pvOk M98_ := pvok_u2 e99_ oz93_ rfl (zboolr 1)
              have f101_ : pvFr fp_X1_turnTo_5_x M M98_ := pvfr_u e99_ fz93_ rfl
              exact pw_ret hT rfl (r := none) (M' := M98_) ⟨rfl, rfl⟩ ⟨rfl, o100_, f101_⟩
            · have b102_ : 1 ≤ Int32.toInt (Mz93_.1 8 1) ∧ Int32.toInt (Mz93_.1 8 1) ≤ 7 := zr_nle_l 1 c95_ b94_ h2z93_ (by decide)
              have b103_ : 0 ≤ Int32.toInt i2z93_ ∧ Int32.toInt i2z93_ ≤ 6 := zr_nle_r 6 c95_ h2z93_ b102_ (by decide)
              have d104_ : Int32.toInt (Mz93_.1 8 1) > Int32.toInt i2z93_ := Int.not_le.mp ((not_congr (zi_le _ _)).mp c95_)
              refine pw_blk hT 2 (S' := (43, [some (pvR 5), some (pvI n1), some (pvI i2z93_)], [pvI i2z93_, pvR 5], Mz93_)) rfl ⟨trivial, trivial, trivial⟩ ?_
              refine pw_callV hT (as := [pvR 5, pvI i2z93_]) (lo1 := [some (pvR 5), some (pvI i2z93_), none, none, none]) (d1 := d) (rest := []) rfl rfl rfl rfl rfl (fun _ => rfl) (Nat.zero_le _) rfl rfl rfl (sf_X1_sumUp_5_x Mz93_ oz93_ i2z93_ b103_ d) (fun M106_ o108_ g109_ => ?_)
              have f110_ : pvFr fp_X1_turnTo_5_x M M106_ := pvfr_t g109_ fz93_ fp_X1_turnTo_5_x_fp_X1_sumUp_5_x
              obtain ⟨q112_, b111_⟩ : (Int32.toInt (i2z93_ + 1) = Int32.toInt i2z93_ + 1) ∧ (1 ≤ Int32.toInt (i2z93_ + 1) ∧ Int32.toInt (i2z93_ + 1) ≤ 7) := zadd_k i2z93_ 1 1 1 7 b103_ (by decide) (by decide) (by decide) (by decide) (by decide)
              refine pw_blk hT 2 (S' := (30, [some (pvR 5), some (pvI n1), some (pvI (i2z93_ + 1))], [], M106_)) rfl ⟨trivial, trivial, trivial⟩ ?_
              exact ihz93_ (i2z93_ + 1) M106_ o108_ f110_ (zr_wide b111_ (by decide) (by decide)) (zhid (pvms_up (zshow hmz93_) h2z93_ q112_ (by decide) (by decide)))
        exact hlz93_ _ 0 M6_ o8_ f9_ (zr_wide (show 0 ≤ Int32.toInt 0 ∧ Int32.toInt 0 ≤ 0 from (by decide)) (by decide) (by decide)) (zhid (Nat.lt_succ_self _))
      · have b113_ : 1 ≤ Int32.toInt (M6_.1 14 (Int32.toNatClampNeg (M6_.1 5 1))) ∧ Int32.toInt (M6_.1 14 (Int32.toNatClampNeg (M6_.1 5 1))) ≤ 1 := (by have u0 := b11_; have u1 := (not_congr (zi_eq _ _)).mp c12_; have u2 := (show 0 ≤ Int32.toInt 0 ∧ Int32.toInt 0 ≤ 0 from (by decide)); omega)
        exact pw_ret hT rfl (r := none) (M' := M6_) ⟨rfl, rfl⟩ ⟨rfl, o8_, f9_⟩
    · have b114_ : 4 ≤ Int32.toInt n1 ∧ Int32.toInt n1 ≤ 2147483647 := zr_nlt_l 4 c4_ b3_ (show 4 ≤ Int32.toInt 4 ∧ Int32.toInt 4 ≤ 4 from (by decide)) (by decide)
      exact pw_ret hT rfl (r := none) (M' := M) ⟨rfl, rfl⟩ ⟨rfl, hok, pvfr_0⟩
def fpL_X1_nobodyShuts_5 : List (Nat × Nat × Nat) := [(0, 12, 0)]
def fp_X1_nobodyShuts_5 (q k : Nat) : Bool := pvfp fpL_X1_nobodyShuts_5 q k
set_option maxHeartbeats 4000000 in
set_option maxRecDepth 10000 in
theorem sf_X1_nobodyShuts_5 (M : pvM) (hok : pvOk M) (d : Nat) : PW 115 d (0, [some (pvR 5), none], [], M) (fun r X => r = none ∧ pvOk X ∧ pvFr fp_X1_nobodyShuts_5 M X) := by
  have hT : pvdom 115 = pvD_115 := rfl
  refine pw_blk hT 2 (S' := (2, [some (pvR 5), some (pvI 0)], [], M)) rfl ⟨trivial, trivial, trivial⟩ ?_
  have hlz105_ : ∀ (nz105_ : Nat) (i1z105_ : Int32) (Mz105_ : pvM), (pvOk Mz105_) → (pvFr fp_X1_nobodyShuts_5 M Mz105_) → (0 ≤ Int32.toInt i1z105_ ∧ Int32.toInt i1z105_ ≤ 7) → (zhide ((8 - Int32.toInt i1z105_).toNat < nz105_)) → PW 115 d (2, [some (pvR 5), some (pvI i1z105_)], [], Mz105_) (fun r X => r = none ∧ pvOk X ∧ pvFr fp_X1_nobodyShuts_5 M X) := by
    intro nz105_
    induction nz105_ with
    | zero => intro i1z105_ Mz105_ oz105_ fz105_ h1z105_ hmz105_; exact absurd (zshow hmz105_) (Nat.not_lt_zero _)
    | succ nz105_ ihz105_ =>
      intro i1z105_ Mz105_ oz105_ fz105_ h1z105_ hmz105_
      have b106_ : 0 ≤ Int32.toInt (Mz105_.1 8 1) ∧ Int32.toInt (Mz105_.1 8 1) ≤ 7 := pvok_r oz105_ 8 1 rfl
      refine pw_blk hT 4 (S' := (10, [some (pvR 5), some (pvI i1z105_)], [pvI (Mz105_.1 8 1), pvI i1z105_], Mz105_)) rfl ⟨trivial, trivial, rfl, rfl, trivial⟩ ?_
      refine pw_ic hT (c := (Mz105_.1 8 1) ≤ i1z105_) rfl rfl (fun c107_ => ?_) (fun c107_ => ?_)
      · have d108_ : Int32.toInt (Mz105_.1 8 1) ≤ Int32.toInt i1z105_ := (zi_le _ _).mp c107_
        exact pw_ret hT rfl (r := none) (M' := Mz105_) ⟨rfl, rfl⟩ ⟨rfl, oz105_, fz105_⟩
      · have b109_ : 1 ≤ Int32.toInt (Mz105_.1 8 1) ∧ Int32.toInt (Mz105_.1 8 1) ≤ 7 := zr_nle_l 1 c107_ b106_ h1z105_ (by decide)
        have b110_ : 0 ≤ Int32.toInt i1z105_ ∧ Int32.toInt i1z105_ ≤ 6 := zr_nle_r 6 c107_ h1z105_ b109_ (by decide)
        have d111_ : Int32.toInt (Mz105_.1 8 1) > Int32.toInt i1z105_ := Int.not_le.mp ((not_congr (zi_le _ _)).mp c107_)
        refine pw_blkr hT 8 (pc := 27) (lo := [some (pvR 5), some (pvI i1z105_)]) (st := [pvI i1z105_, pvR 12]) (M := Mz105_) (z := (pvbs 10 + Int32.toNatClampNeg i1z105_)) rfl ⟨trivial, rfl, trivial, trivial, rfl, rfl, trivial, ⟨rfl, (zr_in (n := 7) b110_ (by decide) (by decide))⟩, trivial⟩ (fun q112_ e114_ => ?_)
        have k113_ : pvkl q112_ = 3 := pvel_10 (zr_in (n := 7) b110_ (by decide) (by decide)) e114_
        have b115_ : 0 ≤ Int32.toInt (Mz105_.1 q112_ 5) ∧ Int32.toInt (Mz105_.1 q112_ 5) ≤ 1 := pvok_r oz105_ q112_ 5 ((pvrg_o 5 k113_ (by decide) (by decide)).trans rfl)
        refine pw_blk hT 1 (S' := (30, [some (pvR 5), some (pvI i1z105_)], [pvI (Mz105_.1 q112_ 5), pvI i1z105_, pvR 12], Mz105_)) rfl ⟨k113_, trivial⟩ ?_
        refine pw_if hT (c := (Mz105_.1 q112_ 5) = 0) rfl rfl (fun c116_ => ?_) (fun c116_ => ?_)
        · have b117_ : 0 ≤ Int32.toInt (Mz105_.1 q112_ 5) ∧ Int32.toInt (Mz105_.1 q112_ 5) ≤ 0 := (by have u0 := b115_; have u1 := (zi_eq _ _).mp c116_; have u2 := (show 0 ≤ Int32.toInt 0 ∧ Int32.toInt 0 ≤ 0 from (by decide)); omega)
          refine pw_blkw hT 2 (pc := 40) (lo := [some (pvR 5), some (pvI i1z105_)]) (st := []) (M := pvu Mz105_ 12 (Int32.toNatClampNeg i1z105_) 1000000) rfl ⟨trivial, ⟨rfl, (zr_in (n := 7) b110_ (by decide) (by decide))⟩, trivial⟩ (fun M118_ e119_ => ?_)
          have o120_ : pvOk M118_ := pvok_u2 e119_ oz105_ rfl (zr_wide (show 1000000 ≤ Int32.toInt 1000000 ∧ Int32.toInt 1000000 ≤ 1000000 from (by decide)) (by decide) (by decide))
          have f121_ : pvFr fp_X1_nobodyShuts_5 M M118_ := pvfr_u e119_ fz105_ rfl
          obtain ⟨q123_, b122_⟩ : (Int32.toInt (i1z105_ + 1) = Int32.toInt i1z105_ + 1) ∧ (1 ≤ Int32.toInt (i1z105_ + 1) ∧ Int32.toInt (i1z105_ + 1) ≤ 7) := zadd_k i1z105_ 1 1 1 7 b110_ (by decide) (by decide) (by decide) (by decide) (by decide)
          refine pw_blk hT 2 (S' := (2, [some (pvR 5), some (pvI (i1z105_ + 1))], [], M118_)) rfl ⟨trivial, trivial, trivial⟩ ?_
          exact ihz105_ (i1z105_ + 1) M118_ o120_ f121_ (zr_wide b122_ (by decide) (by decide)) (zhid (pvms_up (zshow hmz105_) h1z105_ q123_ (by decide) (by decide)))
        · have b124_ : 1 ≤ Int32.toInt (Mz105_.1 q112_ 5) ∧ Int32.toInt (Mz105_.1 q112_ 5) ≤ 1 := (by have u0 := b115_; have u1 := (not_congr (zi_eq _ _)).mp c116_; have u2 := (show 0 ≤ Int32.toInt 0 ∧ Int32.toInt 0 ≤ 0 from (by decide)); omega)
          refine pw_blkw hT 3 (pc := 40) (lo := [some (pvR 5), some (pvI i1z105_)]) (st := []) (M := pvu Mz105_ 12 (Int32.toNatClampNeg i1z105_) 0) rfl ⟨trivial, trivial, ⟨rfl, (zr_in (n := 7) b110_ (by decide) (by decide))⟩, trivial⟩ (fun M125_ e126_ => ?_)
          have o127_ : pvOk M125_ := pvok_u2 e126_ oz105_ rfl (zr_wide (show 0 ≤ Int32.toInt 0 ∧ Int32.toInt 0 ≤ 0 from (by decide)) (by decide) (by decide))
          have f128_ : pvFr fp_X1_nobodyShuts_5 M M125_ := pvfr_u e126_ fz105_ rfl
          obtain ⟨q130_, b129_⟩ : (Int32.toInt (i1z105_ + 1) = Int32.toInt i1z105_ + 1) ∧ (1 ≤ Int32.toInt (i1z105_ + 1) ∧ Int32.toInt (i1z105_ + 1) ≤ 7) := zadd_k i1z105_ 1 1 1 7 b110_ (by decide) (by decide) (by decide) (by decide) (by decide)
          refine pw_blk hT 2 (S' := (2, [some (pvR 5), some (pvI (i1z105_ + 1))], [], M125_)) rfl ⟨trivial, trivial, trivial⟩ ?_
          exact ihz105_ (i1z105_ + 1) M125_ o127_ f128_ (zr_wide b129_ (by decide) (by decide)) (zhid (pvms_up (zshow hmz105_) h1z105_ q130_ (by decide) (by decide)))
  exact hlz105_ _ 0 M hok pvfr_0 (zr_wide (show 0 ≤ Int32.toInt 0 ∧ Int32.toInt 0 ≤ 0 from (by decide)) (by decide) (by decide)) (zhid (Nat.lt_succ_self _))
def fpL_X1_beginFromNow_5 : List (Nat × Nat × Nat) := [(0, 12, 0), (0, 13, 0), (0, 14, 0), (0, 5, 2), (0, 5, 3), (1, 112, 0)]
def fp_X1_beginFromNow_5 (q k : Nat) : Bool := pvfp fpL_X1_beginFromNow_5 q k
theorem fp_X1_beginFromNow_5_fp_X1_nobodyShuts_5 (a b : Nat) (h : fp_X1_nobodyShuts_5 a b = true) : fp_X1_beginFromNow_5 a b = true := pvfp_sub (l1 := fpL_X1_nobodyShuts_5) (l2 := fpL_X1_beginFromNow_5) (by decide) a b h
theorem fp_X1_beginFromNow_5_fp_X1_turnTo_5_x (a b : Nat) (h : fp_X1_turnTo_5_x a b = true) : fp_X1_beginFromNow_5 a b = true := pvfp_sub (l1 := fpL_X1_turnTo_5_x) (l2 := fpL_X1_beginFromNow_5) (by decide) a b h
set_option maxHeartbeats 4000000 in
set_option maxRecDepth 10000 in
theorem sf_X1_beginFromNow_5 (M : pvM) (hok : pvOk M) (d : Nat) : PW 102 d (0, [some (pvR 5)], [], M) (fun r X => r = none ∧ pvOk X ∧ pvFr fp_X1_beginFromNow_5 M X) := by
  have hT : pvdom 102 = pvD_102 := rfl
  have b1_ : 0 ≤ Int32.toInt (M.1 8 2) ∧ Int32.toInt (M.1 8 2) ≤ 99 := pvok_r hok 8 2 rfl
  refine pw_blkw hT 5 (pc := 11) (lo := [some (pvR 5)]) (st := []) (M := pvu M 5 2 (M.1 8 2)) rfl ⟨trivial, trivial, rfl, rfl, rfl, trivial⟩ (fun M2_ e3_ => ?_)
  have o4_ : pvOk M2_ := pvok_u2 e3_ hok rfl (zr_wide b1_ (by decide) (by decide))
  have f5_ : pvFr fp_X1_beginFromNow_5 M M2_ := pvfr_u e3_ pvfr_0 rfl
  have b6_ : 0 ≤ Int32.toInt (M2_.1 8 3) ∧ Int32.toInt (M2_.1 8 3) ≤ 3 := pvok_r o4_ 8 3 rfl
  refine pw_blk hT 4 (S' := (19, [some (pvR 5)], [pvI (M2_.1 8 3), pvR 5], M2_)) rfl ⟨trivial, trivial, rfl, rfl, trivial⟩ ?_
  refine pw_callV hT (as := [pvR 5, pvI (M2_.1 8 3)]) (lo1 := [some (pvR 5), some (pvI (M2_.1 8 3)), none]) (d1 := d) (rest := []) rfl rfl rfl rfl rfl (fun _ => rfl) (Nat.zero_le _) rfl rfl rfl (sf_X1_turnTo_5_x M2_ o4_ (M2_.1 8 3) d) (fun M8_ o10_ g11_ => ?_)
  have f12_ : pvFr fp_X1_beginFromNow_5 M M8_ := pvfr_t g11_ f5_ fp_X1_beginFromNow_5_fp_X1_turnTo_5_x
  refine pw_blk hT 1 (S' := (23, [some (pvR 5)], [pvR 5], M8_)) rfl ⟨trivial, trivial⟩ ?_
  refine pw_callV hT (as := [pvR 5]) (lo1 := [some (pvR 5), none]) (d1 := d) (rest := []) rfl rfl rfl rfl rfl (fun _ => rfl) (Nat.zero_le _) rfl rfl rfl (sf_X1_nobodyShuts_5 M8_ o10_ d) (fun M14_ o16_ g17_ => ?_)
  have f18_ : pvFr fp_X1_beginFromNow_5 M M14_ := pvfr_t g17_ f12_ fp_X1_beginFromNow_5_fp_X1_nobodyShuts_5
  exact pw_ret hT rfl (r := none) (M' := M14_) ⟨rfl, rfl⟩ ⟨rfl, o16_, f18_⟩
set_option maxHeartbeats 4000000 in
set_option maxRecDepth 10000 in
theorem sf_X4_wayFrom_x_x_x_x (M : pvM) (hok : pvOk M) (q0 : Nat) (n1 : Int32) (n2 : Int32) (n3 : Int32) (hq0 : pvkl q0 = 3) (hn1 : 0 ≤ Int32.toInt n1 ∧ Int32.toInt n1 ≤ 3) (hn2 : 0 ≤ Int32.toInt n2 ∧ Int32.toInt n2 ≤ 4) (hn3 : 0 ≤ Int32.toInt n3 ∧ Int32.toInt n3 ≤ 99) (d : Nat) : PW 138 d (0, [some (pvR q0), some (pvI n1), some (pvI n2), some (pvI n3)], [], M) (fun r X => (∃ x : Int32, r = some (pvI x) ∧ 0 ≤ Int32.toInt x ∧ Int32.toInt x ≤ 301) ∧ X = M) := by
  have hT : pvdom 138 = pvD_138 := rfl
  have b1_ : 0 ≤ Int32.toInt (M.1 q0 2) ∧ Int32.toInt (M.1 q0 2) ≤ 3 := pvok_r hok q0 2 ((pvrg_o 2 hq0 (by decide) (by decide)).trans rfl)
  obtain ⟨q3_, b2_⟩ : (Int32.toInt ((M.1 q0 2) - n1) = Int32.toInt (M.1 q0 2) - Int32.toInt n1) ∧ ((-3) ≤ Int32.toInt ((M.1 q0 2) - n1) ∧ Int32.toInt ((M.1 q0 2) - n1) ≤ 3) := zsub_r (M.1 q0 2) n1 (-3) 3 b1_ hn1 (by decide) (by decide) (by decide) (by decide)
  have b4_ : 0 ≤ Int32.toInt (if 0 ≤ ((M.1 q0 2) - n1) then ((M.1 q0 2) - n1) else 0 - ((M.1 q0 2) - n1)) ∧ Int32.toInt (if 0 ≤ ((M.1 q0 2) - n1) then ((M.1 q0 2) - n1) else 0 - ((M.1 q0 2) - n1)) ≤ 3 := (by have u0 := b2_; have u := pvabs ((M.1 q0 2) - n1) (by omega); omega)
  have b5_ : 0 ≤ Int32.toInt (n3 * (if 0 ≤ ((M.1 q0 2) - n1) then ((M.1 q0 2) - n1) else 0 - ((M.1 q0 2) - n1))) ∧ Int32.toInt (n3 * (if 0 ≤ ((M.1 q0 2) - n1) then ((M.1 q0 2) - n1) else 0 - ((M.1 q0 2) - n1))) ≤ 297 := (by have u := zmul_b n3 (if 0 ≤ ((M.1 q0 2) - n1) then ((M.1 q0 2) - n1) else 0 - ((M.1 q0 2) - n1)) 99 3 (by have u0 := hn3; omega) (by have u0 := b4_; omega) (by decide); omega)
  have b6_ : 0 ≤ Int32.toInt (M.1 q0 3) ∧ Int32.toInt (M.1 q0 3) ≤ 4 := pvok_r hok q0 3 ((pvrg_o 3 hq0 (by decide) (by decide)).trans rfl)
  obtain ⟨q8_, b7_⟩ : (Int32.toInt ((M.1 q0 3) - n2) = Int32.toInt (M.1 q0 3) - Int32.toInt n2) ∧ ((-4) ≤ Int32.toInt ((M.1 q0 3) - n2) ∧ Int32.toInt ((M.1 q0 3) - n2) ≤ 4) := zsub_r (M.1 q0 3) n2 (-4) 4 b6_ hn2 (by decide) (by decide) (by decide) (by decide)
  have b9_ : 0 ≤ Int32.toInt (if 0 ≤ ((M.1 q0 3) - n2) then ((M.1 q0 3) - n2) else 0 - ((M.1 q0 3) - n2)) ∧ Int32.toInt (if 0 ≤ ((M.1 q0 3) - n2) then ((M.1 q0 3) - n2) else 0 - ((M.1 q0 3) - n2)) ≤ 4 := (by have u0 := b7_; have u := pvabs ((M.1 q0 3) - n2) (by omega); omega)
  obtain ⟨q11_, b10_⟩ : (Int32.toInt ((n3 * (if 0 ≤ ((M.1 q0 2) - n1) then ((M.1 q0 2) - n1) else 0 - ((M.1 q0 2) - n1))) + (if 0 ≤ ((M.1 q0 3) - n2) then ((M.1 q0 3) - n2) else 0 - ((M.1 q0 3) - n2))) = Int32.toInt (n3 * (if 0 ≤ ((M.1 q0 2) - n1) then ((M.1 q0 2) - n1) else 0 - ((M.1 q0 2) - n1))) + Int32.toInt (if 0 ≤ ((M.1 q0 3) - n2) then ((M.1 q0 3) - n2) else 0 - ((M.1 q0 3) - n2))) ∧ (0 ≤ Int32.toInt ((n3 * (if 0 ≤ ((M.1 q0 2) - n1) then ((M.1 q0 2) - n1) else 0 - ((M.1 q0 2) - n1))) + (if 0 ≤ ((M.1 q0 3) - n2) then ((M.1 q0 3) - n2) else 0 - ((M.1 q0 3) - n2))) ∧ Int32.toInt ((n3 * (if 0 ≤ ((M.1 q0 2) - n1) then ((M.1 q0 2) - n1) else 0 - ((M.1 q0 2) - n1))) + (if 0 ≤ ((M.1 q0 3) - n2) then ((M.1 q0 3) - n2) else 0 - ((M.1 q0 3) - n2))) ≤ 301) := zadd_r (n3 * (if 0 ≤ ((M.1 q0 2) - n1) then ((M.1 q0 2) - n1) else 0 - ((M.1 q0 2) - n1))) (if 0 ≤ ((M.1 q0 3) - n2) then ((M.1 q0 3) - n2) else 0 - ((M.1 q0 3) - n2)) 0 301 b5_ b9_ (by decide) (by decide) (by decide) (by decide)
  refine pw_blk hT 13 (S' := (21, [some (pvR q0), some (pvI n1), some (pvI n2), some (pvI n3)], [pvI ((n3 * (if 0 ≤ ((M.1 q0 2) - n1) then ((M.1 q0 2) - n1) else 0 - ((M.1 q0 2) - n1))) + (if 0 ≤ ((M.1 q0 3) - n2) then ((M.1 q0 3) - n2) else 0 - ((M.1 q0 3) - n2)))], M)) rfl ⟨trivial, trivial, hq0, trivial, trivial, (Nat.le_of_ble_eq_true rfl), trivial, trivial, hq0, trivial, trivial, (Nat.le_of_ble_eq_true rfl), trivial, trivial⟩ ?_
  exact pw_ret hT rfl (r := some (pvI ((n3 * (if 0 ≤ ((M.1 q0 2) - n1) then ((M.1 q0 2) - n1) else 0 - ((M.1 q0 2) - n1))) + (if 0 ≤ ((M.1 q0 3) - n2) then ((M.1 q0 3) - n2) else 0 - ((M.1 q0 3) - n2))))) (M' := M) ⟨rfl, rfl⟩ ⟨⟨_, rfl, b10_⟩, rfl⟩
set_option maxHeartbeats 4000000 in
set_option maxRecDepth 10000 in
theorem sf_X4_minutesFrom_x_x_x_x (M : pvM) (hok : pvOk M) (q0 : Nat) (n1 : Int32) (n2 : Int32) (n3 : Int32) (hq0 : pvkl q0 = 3) (hn1 : 0 ≤ Int32.toInt n1 ∧ Int32.toInt n1 ≤ 3) (hn2 : 0 ≤ Int32.toInt n2 ∧ Int32.toInt n2 ≤ 4) (hn3 : 0 ≤ Int32.toInt n3 ∧ Int32.toInt n3 ≤ 99) (d : Nat) : PW 136 d (0, [some (pvR q0), some (pvI n1), some (pvI n2), some (pvI n3), none], [], M) (fun r X => (∃ x : Int32, r = some (pvI x) ∧ 0 ≤ Int32.toInt x ∧ Int32.toInt x ≤ 319) ∧ X = M) := by
  have hT : pvdom 136 = pvD_136 := rfl
  have b1_ : 0 ≤ Int32.toInt (M.1 q0 0) ∧ Int32.toInt (M.1 q0 0) ≤ 6 := pvok_r hok q0 0 ((pvrg_o 0 hq0 (by decide) (by decide)).trans rfl)
  refine pw_blk hT 3 (S' := (5, [some (pvR q0), some (pvI n1), some (pvI n2), some (pvI n3), none], [pvI 1, pvI (M.1 q0 0)], M)) rfl ⟨trivial, hq0, trivial, trivial⟩ ?_
  refine pw_ic hT (c := (M.1 q0 0) = 1) rfl rfl (fun c2_ => ?_) (fun c2_ => ?_)
  · have b3_ : 1 ≤ Int32.toInt (M.1 q0 0) ∧ Int32.toInt (M.1 q0 0) ≤ 1 := (by have u0 := b1_; have u1 := (zi_eq _ _).mp c2_; have u2 := (show 1 ≤ Int32.toInt 1 ∧ Int32.toInt 1 ≤ 1 from (by decide)); omega)
    refine pw_blk hT 7 (S' := (27, [some (pvR q0), some (pvI n1), some (pvI n2), some (pvI n3), some (pvI 2)], [pvI n3, pvI n2, pvI n1, pvR q0], M)) rfl ⟨trivial, trivial, trivial, trivial, trivial, trivial, trivial, trivial⟩ ?_
    refine pw_callGp hT (as := [pvR q0, pvI n1, pvI n2, pvI n3]) (lo1 := [some (pvR q0), some (pvI n1), some (pvI n2), some (pvI n3)]) (d1 := d) (rest := []) rfl rfl rfl rfl rfl (fun _ => hq0) (Nat.zero_le _) rfl rfl rfl (sf_X4_wayFrom_x_x_x_x M hok q0 n1 n2 n3 hq0 hn1 hn2 hn3 d) (fun x4_ b6_ => ?_)
    have b9_ : 0 ≤ Int32.toInt (M.1 q0 4) ∧ Int32.toInt (M.1 q0 4) ≤ 9 := pvok_r hok q0 4 ((pvrg_o 4 hq0 (by decide) (by decide)).trans rfl)
    have q10_ : Int32.toInt (2 * (M.1 q0 4)) = 2 * Int32.toInt (M.1 q0 4) := by have u0 : Int32.toInt 2 = 2 := (by decide); have u1 := b9_; have u2 := zmul 2 (M.1 q0 4) (by rw [u0]; omega) (by rw [u0]; omega); rw [u0] at u2; omega
    have b11_ : 0 ≤ Int32.toInt (2 * (M.1 q0 4)) ∧ Int32.toInt (2 * (M.1 q0 4)) ≤ 18 := (by have u1 := b9_; omega)
    obtain ⟨q13_, b12_⟩ : (Int32.toInt (x4_ + (2 * (M.1 q0 4))) = Int32.toInt x4_ + Int32.toInt (2 * (M.1 q0 4))) ∧ (0 ≤ Int32.toInt (x4_ + (2 * (M.1 q0 4))) ∧ Int32.toInt (x4_ + (2 * (M.1 q0 4))) ≤ 319) := zadd_r x4_ (2 * (M.1 q0 4)) 0 319 b6_ b11_ (by decide) (by decide) (by decide) (by decide)
    refine pw_blk hT 5 (S' := (38, [some (pvR q0), some (pvI n1), some (pvI n2), some (pvI n3), some (pvI 2)], [pvI (x4_ + (2 * (M.1 q0 4)))], M)) rfl ⟨trivial, trivial, hq0, trivial, trivial, trivial⟩ ?_
    exact pw_ret hT rfl (r := some (pvI (x4_ + (2 * (M.1 q0 4))))) (M' := M) ⟨rfl, rfl⟩ ⟨⟨_, rfl, b12_⟩, rfl⟩
  · refine pw_blk hT 3 (S' := (13, [some (pvR q0), some (pvI n1), some (pvI n2), some (pvI n3), none], [pvI 4, pvI (M.1 q0 0)], M)) rfl ⟨trivial, hq0, trivial, trivial⟩ ?_
    refine pw_icn hT (c := (M.1 q0 0) = 4) rfl rfl (fun c14_ => ?_) (fun c14_ => ?_)
    · refine pw_blk hT 6 (S' := (27, [some (pvR q0), some (pvI n1), some (pvI n2), some (pvI n3), some (pvI 1)], [pvI n3, pvI n2, pvI n1, pvR q0], M)) rfl ⟨trivial, trivial, trivial, trivial, trivial, trivial, trivial⟩ ?_
      refine pw_callGp hT (as := [pvR q0, pvI n1, pvI n2, pvI n3]) (lo1 := [some (pvR q0), some (pvI n1), some (pvI n2), some (pvI n3)]) (d1 := d) (rest := []) rfl rfl rfl rfl rfl (fun _ => hq0) (Nat.zero_le _) rfl rfl rfl (sf_X4_wayFrom_x_x_x_x M hok q0 n1 n2 n3 hq0 hn1 hn2 hn3 d) (fun x15_ b17_ => ?_)
      have b20_ : 0 ≤ Int32.toInt (M.1 q0 4) ∧ Int32.toInt (M.1 q0 4) ≤ 9 := pvok_r hok q0 4 ((pvrg_o 4 hq0 (by decide) (by decide)).trans rfl)
      have q21_ : Int32.toInt (1 * (M.1 q0 4)) = 1 * Int32.toInt (M.1 q0 4) := by have u0 : Int32.toInt 1 = 1 := (by decide); have u1 := b20_; have u2 := zmul 1 (M.1 q0 4) (by rw [u0]; omega) (by rw [u0]; omega); rw [u0] at u2; omega
      have b22_ : 0 ≤ Int32.toInt (1 * (M.1 q0 4)) ∧ Int32.toInt (1 * (M.1 q0 4)) ≤ 9 := (by have u1 := b20_; omega)
      obtain ⟨q24_, b23_⟩ : (Int32.toInt (x15_ + (1 * (M.1 q0 4))) = Int32.toInt x15_ + Int32.toInt (1 * (M.1 q0 4))) ∧ (0 ≤ Int32.toInt (x15_ + (1 * (M.1 q0 4))) ∧ Int32.toInt (x15_ + (1 * (M.1 q0 4))) ≤ 310) := zadd_r x15_ (1 * (M.1 q0 4)) 0 310 b17_ b22_ (by decide) (by decide) (by decide) (by decide)
      refine pw_blk hT 5 (S' := (38, [some (pvR q0), some (pvI n1), some (pvI n2), some (pvI n3), some (pvI 1)], [pvI (x15_ + (1 * (M.1 q0 4)))], M)) rfl ⟨trivial, trivial, hq0, trivial, trivial, trivial⟩ ?_
      exact pw_ret hT rfl (r := some (pvI (x15_ + (1 * (M.1 q0 4))))) (M' := M) ⟨rfl, rfl⟩ ⟨⟨_, rfl, (zr_wide b23_ (by decide) (by decide))⟩, rfl⟩
    · have b25_ : 4 ≤ Int32.toInt (M.1 q0 0) ∧ Int32.toInt (M.1 q0 0) ≤ 4 := (by have u0 := b1_; have u1 := (zi_eq _ _).mp c14_; have u2 := (show 4 ≤ Int32.toInt 4 ∧ Int32.toInt 4 ≤ 4 from (by decide)); omega)
      refine pw_blk hT 7 (S' := (27, [some (pvR q0), some (pvI n1), some (pvI n2), some (pvI n3), some (pvI 2)], [pvI n3, pvI n2, pvI n1, pvR q0], M)) rfl ⟨trivial, trivial, trivial, trivial, trivial, trivial, trivial, trivial⟩ ?_
      refine pw_callGp hT (as := [pvR q0, pvI n1, pvI n2, pvI n3]) (lo1 := [some (pvR q0), some (pvI n1), some (pvI n2), some (pvI n3)]) (d1 := d) (rest := []) rfl rfl rfl rfl rfl (fun _ => hq0) (Nat.zero_le _) rfl rfl rfl (sf_X4_wayFrom_x_x_x_x M hok q0 n1 n2 n3 hq0 hn1 hn2 hn3 d) (fun x26_ b28_ => ?_)
      have b31_ : 0 ≤ Int32.toInt (M.1 q0 4) ∧ Int32.toInt (M.1 q0 4) ≤ 9 := pvok_r hok q0 4 ((pvrg_o 4 hq0 (by decide) (by decide)).trans rfl)
      have q32_ : Int32.toInt (2 * (M.1 q0 4)) = 2 * Int32.toInt (M.1 q0 4) := by have u0 : Int32.toInt 2 = 2 := (by decide); have u1 := b31_; have u2 := zmul 2 (M.1 q0 4) (by rw [u0]; omega) (by rw [u0]; omega); rw [u0] at u2; omega
      have b33_ : 0 ≤ Int32.toInt (2 * (M.1 q0 4)) ∧ Int32.toInt (2 * (M.1 q0 4)) ≤ 18 := (by have u1 := b31_; omega)
      obtain ⟨q35_, b34_⟩ : (Int32.toInt (x26_ + (2 * (M.1 q0 4))) = Int32.toInt x26_ + Int32.toInt (2 * (M.1 q0 4))) ∧ (0 ≤ Int32.toInt (x26_ + (2 * (M.1 q0 4))) ∧ Int32.toInt (x26_ + (2 * (M.1 q0 4))) ≤ 319) := zadd_r x26_ (2 * (M.1 q0 4)) 0 319 b28_ b33_ (by decide) (by decide) (by decide) (by decide)
      refine pw_blk hT 5 (S' := (38, [some (pvR q0), some (pvI n1), some (pvI n2), some (pvI n3), some (pvI 2)], [pvI (x26_ + (2 * (M.1 q0 4)))], M)) rfl ⟨trivial, trivial, hq0, trivial, trivial, trivial⟩ ?_
      exact pw_ret hT rfl (r := some (pvI (x26_ + (2 * (M.1 q0 4))))) (M' := M) ⟨rfl, rfl⟩ ⟨⟨_, rfl, b34_⟩, rfl⟩
def fpL_X1_goAlong_5_100_x_x_x : List (Nat × Nat × Nat) := [(0, 12, 0)]
def fp_X1_goAlong_5_100_x_x_x (q k : Nat) : Bool := pvfp fpL_X1_goAlong_5_100_x_x_x q k
set_option maxHeartbeats 4000000 in
set_option maxRecDepth 10000 in
theorem sf_X1_goAlong_5_100_x_x_x (M : pvM) (hok : pvOk M) (n2 : Int32) (n3 : Int32) (n4 : Int32) (hn2 : 0 ≤ Int32.toInt n2 ∧ Int32.toInt n2 ≤ 7) (hn3 : 0 ≤ Int32.toInt n3 ∧ Int32.toInt n3 ≤ 7) (hn4 : 0 ≤ Int32.toInt n4 ∧ Int32.toInt n4 ≤ 60000) (d : Nat) : PW 109 d (0, [some (pvR 5), some (pvR 100), some (pvI n2), some (pvI n3), some (pvI n4), none, none, none, none, none], [], M) (fun r X => (∃ x : Int32, r = some (pvI x) ∧ 0 ≤ Int32.toInt x ∧ Int32.toInt x ≤ 64000) ∧ pvOk X ∧ pvFr fp_X1_goAlong_5_100_x_x_x M X) := by
  have hT : pvdom 109 = pvD_109 := rfl
  have b1_ : 0 ≤ Int32.toInt (M.1 8 6) ∧ Int32.toInt (M.1 8 6) ≤ 3 := pvok_r hok 8 6 rfl
  have b2_ : 0 ≤ Int32.toInt (M.1 8 7) ∧ Int32.toInt (M.1 8 7) ≤ 4 := pvok_r hok 8 7 rfl
  refine pw_blk hT 12 (S' := (25, [some (pvR 5), some (pvR 100), some (pvI n2), some (pvI n3), some (pvI n4), some (pvI n4), some (pvI (M.1 8 6)), some (pvI (M.1 8 7)), some (pvI n2), none], [], M)) rfl ⟨trivial, trivial, trivial, rfl, rfl, trivial, trivial, rfl, rfl, trivial, trivial, trivial, trivial⟩ ?_
  have hlz169_ : ∀ (nz169_ : Nat) (i5z169_ : Int32) (i6z169_ : Int32) (i7z169_ : Int32) (i8z169_ : Int32) (v9z169_ : Option pvV) (Mz169_ : pvM), (pvOk Mz169_) → (pvFr fp_X1_goAlong_5_100_x_x_x M Mz169_) → (0 ≤ Int32.toInt i5z169_ ∧ Int32.toInt i5z169_ ≤ 64000) → (0 ≤ Int32.toInt i6z169_ ∧ Int32.toInt i6z169_ ≤ 3) → (0 ≤ Int32.toInt i7z169_ ∧ Int32.toInt i7z169_ ≤ 4) → (0 ≤ Int32.toInt i8z169_ ∧ Int32.toInt i8z169_ ≤ 7) → (Int32.toInt i5z169_ ≤ 60000 + 320 * Int32.toInt i8z169_) → (0 ≤ Int32.toInt i5z169_) → (zhide ((8 - Int32.toInt i8z169_).toNat < nz169_)) → PW 109 d (25, [some (pvR 5), some (pvR 100), some (pvI n2), some (pvI n3), some (pvI n4), some (pvI i5z169_), some (pvI i6z169_), some (pvI i7z169_), some (pvI i8z169_), v9z169_], [], Mz169_) (fun r X => (∃ x : Int32, r = some (pvI x) ∧ 0 ≤ Int32.toInt x ∧ Int32.toInt x ≤ 64000) ∧ pvOk X ∧ pvFr fp_X1_goAlong_5_100_x_x_x M X) := by
    intro nz169_
    induction nz169_ with
    | zero => intro i5z169_ i6z169_ i7z169_ i8z169_ v9z169_ Mz169_ oz169_ fz169_ h5z169_ h6z169_ h7z169_ h8z169_ j0z169_ j1z169_ hmz169_; exact absurd (zshow hmz169_) (Nat.not_lt_zero _)
    | succ nz169_ ihz169_ =>
      intro i5z169_ i6z169_ i7z169_ i8z169_ v9z169_ Mz169_ oz169_ fz169_ h5z169_ h6z169_ h7z169_ h8z169_ j0z169_ j1z169_ hmz169_
      refine pw_blk hT 2 (S' := (28, [some (pvR 5), some (pvR 100), some (pvI n2), some (pvI n3), some (pvI n4), some (pvI i5z169_), some (pvI i6z169_), some (pvI i7z169_), some (pvI i8z169_), v9z169_], [pvI n3, pvI i8z169_], Mz169_)) rfl ⟨trivial, trivial, trivial⟩ ?_
      refine pw_ic hT (c := n3 ≤ i8z169_) rfl rfl (fun c170_ => ?_) (fun c170_ => ?_)
      · have d171_ : Int32.toInt n3 ≤ Int32.toInt i8z169_ := (zi_le _ _).mp c170_
        refine pw_blk hT 1 (S' := (128, [some (pvR 5), some (pvR 100), some (pvI n2), some (pvI n3), some (pvI n4), some (pvI i5z169_), some (pvI i6z169_), some (pvI i7z169_), some (pvI i8z169_), v9z169_], [pvI i5z169_], Mz169_)) rfl ⟨trivial, trivial⟩ ?_
        exact pw_ret hT rfl (r := some (pvI i5z169_)) (M' := Mz169_) ⟨rfl, rfl⟩ ⟨⟨_, rfl, h5z169_⟩, oz169_, fz169_⟩
      · have b172_ : 1 ≤ Int32.toInt n3 ∧ Int32.toInt n3 ≤ 7 := zr_nle_l 1 c170_ hn3 h8z169_ (by decide)
        have b173_ : 0 ≤ Int32.toInt i8z169_ ∧ Int32.toInt i8z169_ ≤ 6 := zr_nle_r 6 c170_ h8z169_ b172_ (by decide)
        have d174_ : Int32.toInt n3 > Int32.toInt i8z169_ := Int.not_le.mp ((not_congr (zi_le _ _)).mp c170_)
        have b175_ : 0 ≤ Int32.toInt (Mz169_.1 100 0) ∧ Int32.toInt (Mz169_.1 100 0) ≤ 7 := pvok_r oz169_ 100 0 rfl
        refine pw_blk hT 3 (S' := (37, [some (pvR 5), some (pvR 100), some (pvI n2), some (pvI n3), some (pvI n4), some (pvI i5z169_), some (pvI i6z169_), some (pvI i7z169_), some (pvI i8z169_), v9z169_], [pvI (Mz169_.1 100 0), pvI i8z169_], Mz169_)) rfl ⟨trivial, trivial, rfl, trivial⟩ ?_
        refine pw_ic hT (c := (Mz169_.1 100 0) ≤ i8z169_) rfl rfl (fun c176_ => ?_) (fun c176_ => ?_)
        · have b177_ : 0 ≤ Int32.toInt (Mz169_.1 100 0) ∧ Int32.toInt (Mz169_.1 100 0) ≤ 6 := zr_le_l 6 c176_ b175_ b173_ (by decide)
          have d178_ : Int32.toInt (Mz169_.1 100 0) ≤ Int32.toInt i8z169_ := (zi_le _ _).mp c176_
          refine pw_blk hT 1 (S' := (128, [some (pvR 5), some (pvR 100), some (pvI n2), some (pvI n3), some (pvI n4), some (pvI i5z169_), some (pvI i6z169_), some (pvI i7z169_), some (pvI i8z169_), v9z169_], [pvI i5z169_], Mz169_)) rfl ⟨trivial, trivial⟩ ?_
          exact pw_ret hT rfl (r := some (pvI i5z169_)) (M' := Mz169_) ⟨rfl, rfl⟩ ⟨⟨_, rfl, h5z169_⟩, oz169_, fz169_⟩
        · have b179_ : 1 ≤ Int32.toInt (Mz169_.1 100 0) ∧ Int32.toInt (Mz169_.1 100 0) ≤ 7 := zr_nle_l 1 c176_ b175_ b173_ (by decide)
          have d180_ : Int32.toInt (Mz169_.1 100 0) > Int32.toInt i8z169_ := Int.not_le.mp ((not_congr (zi_le _ _)).mp c176_)
          have b181_ : 0 ≤ Int32.toInt (Mz169_.1 108 (Int32.toNatClampNeg i8z169_)) ∧ Int32.toInt (Mz169_.1 108 (Int32.toNatClampNeg i8z169_)) ≤ 6 := pvok_r oz169_ 108 (Int32.toNatClampNeg i8z169_) rfl
          refine pw_blkr hT 8 (pc := 55) (lo := [some (pvR 5), some (pvR 100), some (pvI n2), some (pvI n3), some (pvI n4), some (pvI i5z169_), some (pvI i6z169_), some (pvI i7z169_), some (pvI i8z169_), v9z169_]) (st := []) (M := Mz169_) (z := (pvbs 10 + Int32.toNatClampNeg (Mz169_.1 108 (Int32.toNatClampNeg i8z169_)))) rfl ⟨trivial, rfl, rfl, trivial, rfl, trivial, ⟨rfl, (zr_in (n := 7) b173_ (by decide) (by decide))⟩, ⟨rfl, (zr_in (n := 7) b181_ (by decide) (by decide))⟩, trivial⟩ (fun q182_ e184_ => ?_)
          have k183_ : pvkl q182_ = 3 := pvel_10 (zr_in (n := 7) b181_ (by decide) (by decide)) e184_
          have b185_ : 0 ≤ Int32.toInt (Mz169_.1 q182_ 5) ∧ Int32.toInt (Mz169_.1 q182_ 5) ≤ 1 := pvok_r oz169_ q182_ 5 ((pvrg_o 5 k183_ (by decide) (by decide)).trans rfl)
          refine pw_blk hT 3 (S' := (62, [some (pvR 5), some (pvR 100), some (pvI n2), some (pvI n3), some (pvI n4), some (pvI i5z169_), some (pvI i6z169_), some (pvI i7z169_), some (pvI i8z169_), some (pvR q182_)], [pvI (Mz169_.1 q182_ 5)], Mz169_)) rfl ⟨trivial, trivial, k183_, trivial⟩ ?_
          refine pw_if hT (c := (Mz169_.1 q182_ 5) = 0) rfl rfl (fun c186_ => ?_) (fun c186_ => ?_)
          · have b187_ : 0 ≤ Int32.toInt (Mz169_.1 q182_ 5) ∧ Int32.toInt (Mz169_.1 q182_ 5) ≤ 0 := (by have u0 := b185_; have u1 := (zi_eq _ _).mp c186_; have u2 := (show 0 ≤ Int32.toInt 0 ∧ Int32.toInt 0 ≤ 0 from (by decide)); omega)
            have b188_ : 15 ≤ Int32.toInt (Mz169_.1 8 8) ∧ Int32.toInt (Mz169_.1 8 8) ≤ 23 := pvok_r oz169_ 8 8 rfl
            refine pw_blkr hT 7 (pc := 83) (lo := [some (pvR 5), some (pvR 100), some (pvI n2), some (pvI n3), some (pvI n4), some (pvI i5z169_), some (pvI i6z169_), some (pvI i7z169_), some (pvI i8z169_), some (pvR q182_)]) (st := [pvI i7z169_, pvI i6z169_, pvR q182_, pvI i5z169_]) (M := Mz169_) (z := (pvhp (Mz169_.1 8 8))) rfl ⟨trivial, trivial, trivial, trivial, trivial, rfl, rfl, trivial⟩ (fun q189_ e191_ => ?_)
            have k190_ : pvkl q189_ = 2 := pvhp_k b188_ e191_
            have b192_ : 0 ≤ Int32.toInt (Mz169_.1 q189_ 0) ∧ Int32.toInt (Mz169_.1 q189_ 0) ≤ 99 := pvok_r oz169_ q189_ 0 ((pvrg_o 0 k190_ (by decide) (by decide)).trans rfl)
            refine pw_blk hT 1 (S' := (86, [some (pvR 5), some (pvR 100), some (pvI n2), some (pvI n3), some (pvI n4), some (pvI i5z169_), some (pvI i6z169_), some (pvI i7z169_), some (pvI i8z169_), some (pvR q182_)], [pvI (Mz169_.1 q189_ 0), pvI i7z169_, pvI i6z169_, pvR q182_, pvI i5z169_], Mz169_)) rfl ⟨k190_, trivial⟩ ?_
            refine pw_callGp hT (as := [pvR q182_, pvI i6z169_, pvI i7z169_, pvI (Mz169_.1 q189_ 0)]) (lo1 := [some (pvR q182_), some (pvI i6z169_), some (pvI i7z169_), some (pvI (Mz169_.1 q189_ 0)), none]) (d1 := d) (rest := [pvI i5z169_]) rfl rfl rfl rfl rfl (fun _ => k183_) (Nat.zero_le _) rfl rfl rfl (sf_X4_minutesFrom_x_x_x_x Mz169_ oz169_ q182_ i6z169_ i7z169_ (Mz169_.1 q189_ 0) k183_ h6z169_ h7z169_ b192_ d) (fun x193_ b195_ => ?_)
            obtain ⟨q199_, b198_⟩ : (Int32.toInt (i5z169_ + x193_) = Int32.toInt i5z169_ + Int32.toInt x193_) ∧ (0 ≤ Int32.toInt (i5z169_ + x193_) ∧ Int32.toInt (i5z169_ + x193_) ≤ 64319) := zadd_r i5z169_ x193_ 0 64319 h5z169_ b195_ (by decide) (by decide) (by decide) (by decide)
            refine pw_blkw hT 10 (pc := 106) (lo := [some (pvR 5), some (pvR 100), some (pvI n2), some (pvI n3), some (pvI n4), some (pvI (i5z169_ + x193_)), some (pvI i6z169_), some (pvI i7z169_), some (pvI i8z169_), some (pvR q182_)]) (st := []) (M := pvu Mz169_ 12 (Int32.toNatClampNeg (Mz169_.1 108 (Int32.toNatClampNeg i8z169_))) (i5z169_ + x193_)) rfl ⟨trivial, trivial, trivial, rfl, trivial, rfl, trivial, ⟨rfl, (zr_in (n := 7) b173_ (by decide) (by decide))⟩, trivial, ⟨rfl, (zr_in (n := 7) b181_ (by decide) (by decide))⟩, trivial⟩ (fun M200_ e201_ => ?_)
            have o202_ : pvOk M200_ := pvok_u2 e201_ oz169_ rfl (zr_wide b198_ (by decide) (by decide))
            have f203_ : pvFr fp_X1_goAlong_5_100_x_x_x M M200_ := pvfr_u e201_ fz169_ rfl
            have b204_ : 0 ≤ Int32.toInt (M200_.1 q182_ 2) ∧ Int32.toInt (M200_.1 q182_ 2) ≤ 3 := pvok_r o202_ q182_ 2 ((pvrg_o 2 k183_ (by decide) (by decide)).trans rfl)
            have b205_ : 0 ≤ Int32.toInt (M200_.1 q182_ 3) ∧ Int32.toInt (M200_.1 q182_ 3) ≤ 4 := pvok_r o202_ q182_ 3 ((pvrg_o 3 k183_ (by decide) (by decide)).trans rfl)
            obtain ⟨q207_, b206_⟩ : (Int32.toInt (i8z169_ + 1) = Int32.toInt i8z169_ + 1) ∧ (1 ≤ Int32.toInt (i8z169_ + 1) ∧ Int32.toInt (i8z169_ + 1) ≤ 7) := zadd_k i8z169_ 1 1 1 7 b173_ (by decide) (by decide) (by decide) (by decide) (by decide)
            refine pw_blk hT 8 (S' := (25, [some (pvR 5), some (pvR 100), some (pvI n2), some (pvI n3), some (pvI n4), some (pvI (i5z169_ + x193_)), some (pvI (M200_.1 q182_ 2)), some (pvI (M200_.1 q182_ 3)), some (pvI (i8z169_ + 1)), some (pvR q182_)], [], M200_)) rfl ⟨trivial, k183_, trivial, trivial, k183_, trivial, trivial, trivial, trivial⟩ ?_
            have j208_ : Int32.toInt (i5z169_ + x193_) ≤ 60000 + 320 * Int32.toInt (i8z169_ + 1) := by omega
            have j209_ : 0 ≤ Int32.toInt (i5z169_ + x193_) := by omega
            exact ihz169_ (i5z169_ + x193_) (M200_.1 q182_ 2) (M200_.1 q182_ 3) (i8z169_ + 1) (some (pvR q182_)) M200_ o202_ f203_ (by have u0 := b198_; omega) b204_ b205_ (zr_wide b206_ (by decide) (by decide)) j208_ j209_ (zhid (pvms_up (zshow hmz169_) h8z169_ q207_ (by decide) (by decide)))
          · have b210_ : 1 ≤ Int32.toInt (Mz169_.1 q182_ 5) ∧ Int32.toInt (Mz169_.1 q182_ 5) ≤ 1 := (by have u0 := b185_; have u1 := (not_congr (zi_eq _ _)).mp c186_; have u2 := (show 0 ≤ Int32.toInt 0 ∧ Int32.toInt 0 ≤ 0 from (by decide)); omega)
            obtain ⟨q212_, b211_⟩ : (Int32.toInt (i8z169_ + 1) = Int32.toInt i8z169_ + 1) ∧ (1 ≤ Int32.toInt (i8z169_ + 1) ∧ Int32.toInt (i8z169_ + 1) ≤ 7) := zadd_k i8z169_ 1 1 1 7 b173_ (by decide) (by decide) (by decide) (by decide) (by decide)
            refine pw_blk hT 3 (S' := (25, [some (pvR 5), some (pvR 100), some (pvI n2), some (pvI n3), some (pvI n4), some (pvI i5z169_), some (pvI i6z169_), some (pvI i7z169_), some (pvI (i8z169_ + 1)), some (pvR q182_)], [], Mz169_)) rfl ⟨trivial, trivial, trivial, trivial⟩ ?_
            have j213_ : Int32.toInt i5z169_ ≤ 60000 + 320 * Int32.toInt (i8z169_ + 1) := by omega
            have j214_ : 0 ≤ Int32.toInt i5z169_ := by omega
            exact ihz169_ i5z169_ i6z169_ i7z169_ (i8z169_ + 1) (some (pvR q182_)) Mz169_ oz169_ fz169_ h5z169_ h6z169_ h7z169_ (zr_wide b211_ (by decide) (by decide)) j213_ j214_ (zhid (pvms_up (zshow hmz169_) h8z169_ q212_ (by decide) (by decide)))
  have j215_ : Int32.toInt n4 ≤ 60000 + 320 * Int32.toInt n2 := by omega
  have j216_ : 0 ≤ Int32.toInt n4 := by omega
  exact hlz169_ _ n4 (M.1 8 6) (M.1 8 7) n2 none M hok pvfr_0 (zr_wide hn4 (by decide) (by decide)) b1_ b2_ hn2 j215_ j216_ (zhid (Nat.lt_succ_self _))
