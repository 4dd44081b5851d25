set_option maxHeartbeats 4000000 in
set_option maxRecDepth 10000 in
theorem se_X3_isUnder_2_6 (M : pvM) (hok : pvOk M) (d : Nat) : PW 132 d (0, [some (pvI 2), some (pvI 6), none, none], [], M) (fun r X => r = some (pvI (0)) ∧ X = M) := by
  have hT : pvdom 132 = pvD_132 := rfl
  refine pw_blk hT 4 (S' := (4, [some (pvI 2), some (pvI 6), some (pvI 2), some (pvI 0)], [], M)) rfl ⟨trivial, trivial, trivial, trivial, trivial⟩ ?_
  refine pw_blk hT 3 (S' := (9, [some (pvI 2), some (pvI 6), some (pvI 2), some (pvI 0)], [pvI (Int32.ofNat (pvstab 1040).length), pvI 0], M)) rfl ⟨trivial, trivial, (by decide), trivial⟩ ?_
  refine pw_ic hT (c := (Int32.ofNat (pvstab 1040).length) ≤ 0) rfl rfl (fun c1_ => absurd c1_ (by decide)) (fun c1_ => ?_)
  refine pw_blk hT 1 (S' := (13, [some (pvI 2), some (pvI 6), some (pvI 2), some (pvI 0)], [pvI 2], M)) rfl ⟨trivial, trivial⟩ ?_
  refine pw_if hT (c := 2 < 0) rfl rfl (fun c2_ => absurd c2_ (by decide)) (fun c2_ => ?_)
  refine pw_blk hT 2 (S' := (18, [some (pvI 2), some (pvI 6), some (pvI 2), some (pvI 0)], [pvI 6, pvI 2], M)) rfl ⟨trivial, trivial, trivial⟩ ?_
  refine pw_icn hT (c := 2 = 6) rfl rfl (fun c3_ => ?_) (fun c3_ => absurd c3_ (by decide))
  refine pw_blk hT 1 (S' := (24, [some (pvI 2), some (pvI 6), some (pvI 2), some (pvI 0)], [pvI 2], M)) rfl ⟨trivial, trivial⟩ ?_
  refine pw_callT hT (as := [pvI 2]) (lo1 := [some (pvI 2)]) (d1 := d) (rest := []) rfl rfl rfl rfl rfl (fun h => absurd h (by decide)) (Nat.zero_le _) rfl rfl rfl (se_X3_above_2 M hok d) ?_
  refine pw_eqI (show ((pvstab 1040).getD (Int32.toNatClampNeg 2) 0) = 0 from by decide) ?_
  show PW 132 d (27, [some (pvI 2), some (pvI 6), some (pvI 2), some (pvI 0)], [pvI 0], M) _
  refine pw_blk hT 3 (S' := (4, [some (pvI 2), some (pvI 6), some (pvI 0), some (pvI (0 + 1))], [], M)) rfl ⟨trivial, trivial, trivial, trivial⟩ ?_
  refine pw_blk hT 3 (S' := (9, [some (pvI 2), some (pvI 6), some (pvI 0), some (pvI (0 + 1))], [pvI (Int32.ofNat (pvstab 1040).length), pvI (0 + 1)], M)) rfl ⟨trivial, trivial, (by decide), trivial⟩ ?_
  refine pw_ic hT (c := (Int32.ofNat (pvstab 1040).length) ≤ (0 + 1)) rfl rfl (fun c9_ => absurd c9_ (by decide)) (fun c9_ => ?_)
  refine pw_blk hT 1 (S' := (13, [some (pvI 2), some (pvI 6), some (pvI 0), some (pvI (0 + 1))], [pvI 0], M)) rfl ⟨trivial, trivial⟩ ?_
  refine pw_if hT (c := 0 < 0) rfl rfl (fun c10_ => absurd c10_ (by decide)) (fun c10_ => ?_)
  refine pw_blk hT 2 (S' := (18, [some (pvI 2), some (pvI 6), some (pvI 0), some (pvI (0 + 1))], [pvI 6, pvI 0], M)) rfl ⟨trivial, trivial, trivial⟩ ?_
  refine pw_icn hT (c := 0 = 6) rfl rfl (fun c11_ => ?_) (fun c11_ => absurd c11_ (by decide))
  refine pw_blk hT 1 (S' := (24, [some (pvI 2), some (pvI 6), some (pvI 0), some (pvI (0 + 1))], [pvI 0], M)) rfl ⟨trivial, trivial⟩ ?_
  refine pw_callT hT (as := [pvI 0]) (lo1 := [some (pvI 0)]) (d1 := d) (rest := []) rfl rfl rfl rfl rfl (fun h => absurd h (by decide)) (Nat.zero_le _) rfl rfl rfl (se_X3_above_0 M hok d) ?_
  refine pw_eqI (show ((pvstab 1040).getD (Int32.toNatClampNeg 0) 0) = (-1) from by decide) ?_
  show PW 132 d (27, [some (pvI 2), some (pvI 6), some (pvI 0), some (pvI (0 + 1))], [pvI (-1)], M) _
  refine pw_blk hT 3 (S' := (4, [some (pvI 2), some (pvI 6), some (pvI (-1)), some (pvI ((0 + 1) + 1))], [], M)) rfl ⟨trivial, trivial, trivial, trivial⟩ ?_
  refine pw_blk hT 3 (S' := (9, [some (pvI 2), some (pvI 6), some (pvI (-1)), some (pvI ((0 + 1) + 1))], [pvI (Int32.ofNat (pvstab 1040).length), pvI ((0 + 1) + 1)], M)) rfl ⟨trivial, trivial, (by decide), trivial⟩ ?_
  refine pw_ic hT (c := (Int32.ofNat (pvstab 1040).length) ≤ ((0 + 1) + 1)) rfl rfl (fun c17_ => absurd c17_ (by decide)) (fun c17_ => ?_)
  refine pw_blk hT 1 (S' := (13, [some (pvI 2), some (pvI 6), some (pvI (-1)), some (pvI ((0 + 1) + 1))], [pvI (-1)], M)) rfl ⟨trivial, trivial⟩ ?_
  refine pw_if hT (c := (-1) < 0) rfl rfl (fun c18_ => ?_) (fun c18_ => absurd (by decide) c18_)
  refine pw_blk hT 1 (S' := (35, [some (pvI 2), some (pvI 6), some (pvI (-1)), some (pvI ((0 + 1) + 1))], [pvI 0], M)) rfl ⟨trivial, trivial⟩ ?_
  exact pw_ret hT rfl (r := some (pvI 0)) (M' := M) ⟨Or.inl rfl, rfl, rfl⟩ ⟨rfl, rfl⟩
set_option maxHeartbeats 4000000 in
set_option maxRecDepth 10000 in
theorem se_X3_isUnder_3_0 (M : pvM) (hok : pvOk M) (d : Nat) : PW 132 d (0, [some (pvI 3), some (pvI 0), none, none], [], M) (fun r X => r = some (pvI (1)) ∧ X = M) := by
  have hT : pvdom 132 = pvD_132 := rfl
  refine pw_blk hT 4 (S' := (4, [some (pvI 3), some (pvI 0), some (pvI 3), some (pvI 0)], [], M)) rfl ⟨trivial, trivial, trivial, trivial, trivial⟩ ?_
  refine pw_blk hT 3 (S' := (9, [some (pvI 3), some (pvI 0), some (pvI 3), some (pvI 0)], [pvI (Int32.ofNat (pvstab 1040).length), pvI 0], M)) rfl ⟨trivial, trivial, (by decide), trivial⟩ ?_
  refine pw_ic hT (c := (Int32.ofNat (pvstab 1040).length) ≤ 0) rfl rfl (fun c1_ => absurd c1_ (by decide)) (fun c1_ => ?_)
  refine pw_blk hT 1 (S' := (13, [some (pvI 3), some (pvI 0), some (pvI 3), some (pvI 0)], [pvI 3], M)) rfl ⟨trivial, trivial⟩ ?_
  refine pw_if hT (c := 3 < 0) rfl rfl (fun c2_ => absurd c2_ (by decide)) (fun c2_ => ?_)
  refine pw_blk hT 2 (S' := (18, [some (pvI 3), some (pvI 0), some (pvI 3), some (pvI 0)], [pvI 0, pvI 3], M)) rfl ⟨trivial, trivial, trivial⟩ ?_
  refine pw_icn hT (c := 3 = 0) rfl rfl (fun c3_ => ?_) (fun c3_ => absurd c3_ (by decide))
  refine pw_blk hT 1 (S' := (24, [some (pvI 3), some (pvI 0), some (pvI 3), some (pvI 0)], [pvI 3], M)) rfl ⟨trivial, trivial⟩ ?_
  refine pw_callT hT (as := [pvI 3]) (lo1 := [some (pvI 3)]) (d1 := d) (rest := []) rfl rfl rfl rfl rfl (fun h => absurd h (by decide)) (Nat.zero_le _) rfl rfl rfl (se_X3_above_3 M hok d) ?_
  refine pw_eqI (show ((pvstab 1040).getD (Int32.toNatClampNeg 3) 0) = 0 from by decide) ?_
  show PW 132 d (27, [some (pvI 3), some (pvI 0), some (pvI 3), some (pvI 0)], [pvI 0], M) _
  refine pw_blk hT 3 (S' := (4, [some (pvI 3), some (pvI 0), some (pvI 0), some (pvI (0 + 1))], [], M)) rfl ⟨trivial, trivial, trivial, trivial⟩ ?_
  refine pw_blk hT 3 (S' := (9, [some (pvI 3), some (pvI 0), some (pvI 0), some (pvI (0 + 1))], [pvI (Int32.ofNat (pvstab 1040).length), pvI (0 + 1)], M)) rfl ⟨trivial, trivial, (by decide), trivial⟩ ?_
  refine pw_ic hT (c := (Int32.ofNat (pvstab 1040).length) ≤ (0 + 1)) rfl rfl (fun c9_ => absurd c9_ (by decide)) (fun c9_ => ?_)
  refine pw_blk hT 1 (S' := (13, [some (pvI 3), some (pvI 0), some (pvI 0), some (pvI (0 + 1))], [pvI 0], M)) rfl ⟨trivial, trivial⟩ ?_
  refine pw_if hT (c := 0 < 0) rfl rfl (fun c10_ => absurd c10_ (by decide)) (fun c10_ => ?_)
  refine pw_blk hT 2 (S' := (18, [some (pvI 3), some (pvI 0), some (pvI 0), some (pvI (0 + 1))], [pvI 0, pvI 0], M)) rfl ⟨trivial, trivial, trivial⟩ ?_
  refine pw_icn hT (c := 0 = 0) rfl rfl (fun c11_ => absurd (by decide) c11_) (fun c11_ => ?_)
  refine pw_blk hT 1 (S' := (22, [some (pvI 3), some (pvI 0), some (pvI 0), some (pvI (0 + 1))], [pvI 1], M)) rfl ⟨trivial, trivial⟩ ?_
  exact pw_ret hT rfl (r := some (pvI 1)) (M' := M) ⟨Or.inr rfl, rfl, rfl⟩ ⟨rfl, rfl⟩
set_option maxHeartbeats 4000000 in
set_option maxRecDepth 10000 in
theorem se_X3_isUnder_3_1 (M : pvM) (hok : pvOk M) (d : Nat) : PW 132 d (0, [some (pvI 3), some (pvI 1), none, none], [], M) (fun r X => r = some (pvI (0)) ∧ X = M) := by
  have hT : pvdom 132 = pvD_132 := rfl
  refine pw_blk hT 4 (S' := (4, [some (pvI 3), some (pvI 1), some (pvI 3), some (pvI 0)], [], M)) rfl ⟨trivial, trivial, trivial, trivial, trivial⟩ ?_
  refine pw_blk hT 3 (S' := (9, [some (pvI 3), some (pvI 1), some (pvI 3), some (pvI 0)], [pvI (Int32.ofNat (pvstab 1040).length), pvI 0], M)) rfl ⟨trivial, trivial, (by decide), trivial⟩ ?_
  refine pw_ic hT (c := (Int32.ofNat (pvstab 1040).length) ≤ 0) rfl rfl (fun c1_ => absurd c1_ (by decide)) (fun c1_ => ?_)
  refine pw_blk hT 1 (S' := (13, [some (pvI 3), some (pvI 1), some (pvI 3), some (pvI 0)], [pvI 3], M)) rfl ⟨trivial, trivial⟩ ?_
  refine pw_if hT (c := 3 < 0) rfl rfl (fun c2_ => absurd c2_ (by decide)) (fun c2_ => ?_)
  refine pw_blk hT 2 (S' := (18, [some (pvI 3), some (pvI 1), some (pvI 3), some (pvI 0)], [pvI 1, pvI 3], M)) rfl ⟨trivial, trivial, trivial⟩ ?_
  refine pw_icn hT (c := 3 = 1) rfl rfl (fun c3_ => ?_) (fun c3_ => absurd c3_ (by decide))
  refine pw_blk hT 1 (S' := (24, [some (pvI 3), some (pvI 1), some (pvI 3), some (pvI 0)], [pvI 3], M)) rfl ⟨trivial, trivial⟩ ?_
  refine pw_callT hT (as := [pvI 3]) (lo1 := [some (pvI 3)]) (d1 := d) (rest := []) rfl rfl rfl rfl rfl (fun h => absurd h (by decide)) (Nat.zero_le _) rfl rfl rfl (se_X3_above_3 M hok d) ?_
  refine pw_eqI (show ((pvstab 1040).getD (Int32.toNatClampNeg 3) 0) = 0 from by decide) ?_
  show PW 132 d (27, [some (pvI 3), some (pvI 1), some (pvI 3), some (pvI 0)], [pvI 0], M) _
  refine pw_blk hT 3 (S' := (4, [some (pvI 3), some (pvI 1), some (pvI 0), some (pvI (0 + 1))], [], M)) rfl ⟨trivial, trivial, trivial, trivial⟩ ?_
  refine pw_blk hT 3 (S' := (9, [some (pvI 3), some (pvI 1), some (pvI 0), some (pvI (0 + 1))], [pvI (Int32.ofNat (pvstab 1040).length), pvI (0 + 1)], M)) rfl ⟨trivial, trivial, (by decide), trivial⟩ ?_
  refine pw_ic hT (c := (Int32.ofNat (pvstab 1040).length) ≤ (0 + 1)) rfl rfl (fun c9_ => absurd c9_ (by decide)) (fun c9_ => ?_)
  refine pw_blk hT 1 (S' := (13, [some (pvI 3), some (pvI 1), some (pvI 0), some (pvI (0 + 1))], [pvI 0], M)) rfl ⟨trivial, trivial⟩ ?_
  refine pw_if hT (c := 0 < 0) rfl rfl (fun c10_ => absurd c10_ (by decide)) (fun c10_ => ?_)
  refine pw_blk hT 2 (S' := (18, [some (pvI 3), some (pvI 1), some (pvI 0), some (pvI (0 + 1))], [pvI 1, pvI 0], M)) rfl ⟨trivial, trivial, trivial⟩ ?_
  refine pw_icn hT (c := 0 = 1) rfl rfl (fun c11_ => ?_) (fun c11_ => absurd c11_ (by decide))
  refine pw_blk hT 1 (S' := (24, [some (pvI 3), some (pvI 1), some (pvI 0), some (pvI (0 + 1))], [pvI 0], M)) rfl ⟨trivial, trivial⟩ ?_
  refine pw_callT hT (as := [pvI 0]) (lo1 := [some (pvI 0)]) (d1 := d) (rest := []) rfl rfl rfl rfl rfl (fun h => absurd h (by decide)) (Nat.zero_le _) rfl rfl rfl (se_X3_above_0 M hok d) ?_
  refine pw_eqI (show ((pvstab 1040).getD (Int32.toNatClampNeg 0) 0) = (-1) from by decide) ?_
  show PW 132 d (27, [some (pvI 3), some (pvI 1), some (pvI 0), some (pvI (0 + 1))], [pvI (-1)], M) _
  refine pw_blk hT 3 (S' := (4, [some (pvI 3), some (pvI 1), some (pvI (-1)), some (pvI ((0 + 1) + 1))], [], M)) rfl ⟨trivial, trivial, trivial, trivial⟩ ?_
  refine pw_blk hT 3 (S' := (9, [some (pvI 3), some (pvI 1), some (pvI (-1)), some (pvI ((0 + 1) + 1))], [pvI (Int32.ofNat (pvstab 1040).length), pvI ((0 + 1) + 1)], M)) rfl ⟨trivial, trivial, (by decide), trivial⟩ ?_
  refine pw_ic hT (c := (Int32.ofNat (pvstab 1040).length) ≤ ((0 + 1) + 1)) rfl rfl (fun c17_ => absurd c17_ (by decide)) (fun c17_ => ?_)
  refine pw_blk hT 1 (S' := (13, [some (pvI 3), some (pvI 1), some (pvI (-1)), some (pvI ((0 + 1) + 1))], [pvI (-1)], M)) rfl ⟨trivial, trivial⟩ ?_
  refine pw_if hT (c := (-1) < 0) rfl rfl (fun c18_ => ?_) (fun c18_ => absurd (by decide) c18_)
  refine pw_blk hT 1 (S' := (35, [some (pvI 3), some (pvI 1), some (pvI (-1)), some (pvI ((0 + 1) + 1))], [pvI 0], M)) rfl ⟨trivial, trivial⟩ ?_
  exact pw_ret hT rfl (r := some (pvI 0)) (M' := M) ⟨Or.inl rfl, rfl, rfl⟩ ⟨rfl, rfl⟩
set_option maxHeartbeats 4000000 in
set_option maxRecDepth 10000 in
theorem se_X3_isUnder_3_2 (M : pvM) (hok : pvOk M) (d : Nat) : PW 132 d (0, [some (pvI 3), some (pvI 2), none, none], [], M) (fun r X => r = some (pvI (0)) ∧ X = M) := by
  have hT : pvdom 132 = pvD_132 := rfl
  refine pw_blk hT 4 (S' := (4, [some (pvI 3), some (pvI 2), some (pvI 3), some (pvI 0)], [], M)) rfl ⟨trivial, trivial, trivial, trivial, trivial⟩ ?_
  refine pw_blk hT 3 (S' := (9, [some (pvI 3), some (pvI 2), some (pvI 3), some (pvI 0)], [pvI (Int32.ofNat (pvstab 1040).length), pvI 0], M)) rfl ⟨trivial, trivial, (by decide), trivial⟩ ?_
  refine pw_ic hT (c := (Int32.ofNat (pvstab 1040).length) ≤ 0) rfl rfl (fun c1_ => absurd c1_ (by decide)) (fun c1_ => ?_)
  refine pw_blk hT 1 (S' := (13, [some (pvI 3), some (pvI 2), some (pvI 3), some (pvI 0)], [pvI 3], M)) rfl ⟨trivial, trivial⟩ ?_
  refine pw_if hT (c := 3 < 0) rfl rfl (fun c2_ => absurd c2_ (by decide)) (fun c2_ => ?_)
  refine pw_blk hT 2 (S' := (18, [some (pvI 3), some (pvI 2), some (pvI 3), some (pvI 0)], [pvI 2, pvI 3], M)) rfl ⟨trivial, trivial, trivial⟩ ?_
  refine pw_icn hT (c := 3 = 2) rfl rfl (fun c3_ => ?_) (fun c3_ => absurd c3_ (by decide))
  refine pw_blk hT 1 (S' := (24, [some (pvI 3), some (pvI 2), some (pvI 3), some (pvI 0)], [pvI 3], M)) rfl ⟨trivial, trivial⟩ ?_
  refine pw_callT hT (as := [pvI 3]) (lo1 := [some (pvI 3)]) (d1 := d) (rest := []) rfl rfl rfl rfl rfl (fun h => absurd h (by decide)) (Nat.zero_le _) rfl rfl rfl (se_X3_above_3 M hok d) ?_
  refine pw_eqI (show ((pvstab 1040).getD (Int32.toNatClampNeg 3) 0) = 0 from by decide) ?_
  show PW 132 d (27, [some (pvI 3), some (pvI 2), some (pvI 3), some (pvI 0)], [pvI 0], M) _
  refine pw_blk hT 3 (S' := (4, [some (pvI 3), some (pvI 2), some (pvI 0), some (pvI (0 + 1))], [], M)) rfl ⟨trivial, trivial, trivial, trivial⟩ ?_
  refine pw_blk hT 3 (S' := (9, [some (pvI 3), some (pvI 2), some (pvI 0), some (pvI (0 + 1))], [pvI (Int32.ofNat (pvstab 1040).length), pvI (0 + 1)], M)) rfl ⟨trivial, trivial, (by decide), trivial⟩ ?_
  refine pw_ic hT (c := (Int32.ofNat (pvstab 1040).length) ≤ (0 + 1)) rfl rfl (fun c9_ => absurd c9_ (by decide)) (fun c9_ => ?_)
  refine pw_blk hT 1 (S' := (13, [some (pvI 3), some (pvI 2), some (pvI 0), some (pvI (0 + 1))], [pvI 0], M)) rfl ⟨trivial, trivial⟩ ?_
  refine pw_if hT (c := 0 < 0) rfl rfl (fun c10_ => absurd c10_ (by decide)) (fun c10_ => ?_)
  refine pw_blk hT 2 (S' := (18, [some (pvI 3), some (pvI 2), some (pvI 0), some (pvI (0 + 1))], [pvI 2, pvI 0], M)) rfl ⟨trivial, trivial, trivial⟩ ?_
  refine pw_icn hT (c := 0 = 2) rfl rfl (fun c11_ => ?_) (fun c11_ => absurd c11_ (by decide))
  refine pw_blk hT 1 (S' := (24, [some (pvI 3), some (pvI 2), some (pvI 0), some (pvI (0 + 1))], [pvI 0], M)) rfl ⟨trivial, trivial⟩ ?_
  refine pw_callT hT (as := [pvI 0]) (lo1 := [some (pvI 0)]) (d1 := d) (rest := []) rfl rfl rfl rfl rfl (fun h => absurd h (by decide)) (Nat.zero_le _) rfl rfl rfl (se_X3_above_0 M hok d) ?_
  refine pw_eqI (show ((pvstab 1040).getD (Int32.toNatClampNeg 0) 0) = (-1) from by decide) ?_
  show PW 132 d (27, [some (pvI 3), some (pvI 2), some (pvI 0), some (pvI (0 + 1))], [pvI (-1)], M) _
  refine pw_blk hT 3 (S' := (4, [some (pvI 3), some (pvI 2), some (pvI (-1)), some (pvI ((0 + 1) + 1))], [], M)) rfl ⟨trivial, trivial, trivial, trivial⟩ ?_
  refine pw_blk hT 3 (S' := (9, [some (pvI 3), some (pvI 2), some (pvI (-1)), some (pvI ((0 + 1) + 1))], [pvI (Int32.ofNat (pvstab 1040).length), pvI ((0 + 1) + 1)], M)) rfl ⟨trivial, trivial, (by decide), trivial⟩ ?_
  refine pw_ic hT (c := (Int32.ofNat (pvstab 1040).length) ≤ ((0 + 1) + 1)) rfl rfl (fun c17_ => absurd c17_ (by decide)) (fun c17_ => ?_)
  refine pw_blk hT 1 (S' := (13, [some (pvI 3), some (pvI 2), some (pvI (-1)), some (pvI ((0 + 1) + 1))], [pvI (-1)], M)) rfl ⟨trivial, trivial⟩ ?_
  refine pw_if hT (c := (-1) < 0) rfl rfl (fun c18_ => ?_) (fun c18_ => absurd (by decide) c18_)
  refine pw_blk hT 1 (S' := (35, [some (pvI 3), some (pvI 2), some (pvI (-1)), some (pvI ((0 + 1) + 1))], [pvI 0], M)) rfl ⟨trivial, trivial⟩ ?_
  exact pw_ret hT rfl (r := some (pvI 0)) (M' := M) ⟨Or.inl rfl, rfl, rfl⟩ ⟨rfl, rfl⟩
set_option maxHeartbeats 4000000 in
set_option maxRecDepth 10000 in
theorem se_X3_isUnder_3_3 (M : pvM) (hok : pvOk M) (d : Nat) : PW 132 d (0, [some (pvI 3), some (pvI 3), none, none], [], M) (fun r X => r = some (pvI (1)) ∧ X = M) := by
  have hT : pvdom 132 = pvD_132 := rfl
  refine pw_blk hT 4 (S' := (4, [some (pvI 3), some (pvI 3), some (pvI 3), some (pvI 0)], [], M)) rfl ⟨trivial, trivial, trivial, trivial, trivial⟩ ?_
  refine pw_blk hT 3 (S' := (9, [some (pvI 3), some (pvI 3), some (pvI 3), some (pvI 0)], [pvI (Int32.ofNat (pvstab 1040).length), pvI 0], M)) rfl ⟨trivial, trivial, (by decide), trivial⟩ ?_
  refine pw_ic hT (c := (Int32.ofNat (pvstab 1040).length) ≤ 0) rfl rfl (fun c1_ => absurd c1_ (by decide)) (fun c1_ => ?_)
  refine pw_blk hT 1 (S' := (13, [some (pvI 3), some (pvI 3), some (pvI 3), some (pvI 0)], [pvI 3], M)) rfl ⟨trivial, trivial⟩ ?_
  refine pw_if hT (c := 3 < 0) rfl rfl (fun c2_ => absurd c2_ (by decide)) (fun c2_ => ?_)
  refine pw_blk hT 2 (S' := (18, [some (pvI 3), some (pvI 3), some (pvI 3), some (pvI 0)], [pvI 3, pvI 3], M)) rfl ⟨trivial, trivial, trivial⟩ ?_
  refine pw_icn hT (c := 3 = 3) rfl rfl (fun c3_ => absurd (by decide) c3_) (fun c3_ => ?_)
  refine pw_blk hT 1 (S' := (22, [some (pvI 3), some (pvI 3), some (pvI 3), some (pvI 0)], [pvI 1], M)) rfl ⟨trivial, trivial⟩ ?_
  exact pw_ret hT rfl (r := some (pvI 1)) (M' := M) ⟨Or.inr rfl, rfl, rfl⟩ ⟨rfl, rfl⟩
set_option maxHeartbeats 4000000 in
set_option maxRecDepth 10000 in
theorem se_X3_isUnder_3_4 (M : pvM) (hok : pvOk M) (d : Nat) : PW 132 d (0, [some (pvI 3), some (pvI 4), none, none], [], M) (fun r X => r = some (pvI (0)) ∧ X = M) := by
  have hT : pvdom 132 = pvD_132 := rfl
  refine pw_blk hT 4 (S' := (4, [some (pvI 3), some (pvI 4), some (pvI 3), some (pvI 0)], [], M)) rfl ⟨trivial, trivial, trivial, trivial, trivial⟩ ?_
  refine pw_blk hT 3 (S' := (9, [some (pvI 3), some (pvI 4), some (pvI 3), some (pvI 0)], [pvI (Int32.ofNat (pvstab 1040).length), pvI 0], M)) rfl ⟨trivial, trivial, (by decide), trivial⟩ ?_
  refine pw_ic hT (c := (Int32.ofNat (pvstab 1040).length) ≤ 0) rfl rfl (fun c1_ => absurd c1_ (by decide)) (fun c1_ => ?_)
  refine pw_blk hT 1 (S' := (13, [some (pvI 3), some (pvI 4), some (pvI 3), some (pvI 0)], [pvI 3], M)) rfl ⟨trivial, trivial⟩ ?_
  refine pw_if hT (c := 3 < 0) rfl rfl (fun c2_ => absurd c2_ (by decide)) (fun c2_ => ?_)
  refine pw_blk hT 2 (S' := (18, [some (pvI 3), some (pvI 4), some (pvI 3), some (pvI 0)], [pvI 4, pvI 3], M)) rfl ⟨trivial, trivial, trivial⟩ ?_
  refine pw_icn hT (c := 3 = 4) rfl rfl (fun c3_ => ?_) (fun c3_ => absurd c3_ (by decide))
  refine pw_blk hT 1 (S' := (24, [some (pvI 3), some (pvI 4), some (pvI 3), some (pvI 0)], [pvI 3], M)) rfl ⟨trivial, trivial⟩ ?_
  refine pw_callT hT (as := [pvI 3]) (lo1 := [some (pvI 3)]) (d1 := d) (rest := []) rfl rfl rfl rfl rfl (fun h => absurd h (by decide)) (Nat.zero_le _) rfl rfl rfl (se_X3_above_3 M hok d) ?_
  refine pw_eqI (show ((pvstab 1040).getD (Int32.toNatClampNeg 3) 0) = 0 from by decide) ?_
  show PW 132 d (27, [some (pvI 3), some (pvI 4), some (pvI 3), some (pvI 0)], [pvI 0], M) _
  refine pw_blk hT 3 (S' := (4, [some (pvI 3), some (pvI 4), some (pvI 0), some (pvI (0 + 1))], [], M)) rfl ⟨trivial, trivial, trivial, trivial⟩ ?_
  refine pw_blk hT 3 (S' := (9, [some (pvI 3), some (pvI 4), some (pvI 0), some (pvI (0 + 1))], [pvI (Int32.ofNat (pvstab 1040).length), pvI (0 + 1)], M)) rfl ⟨trivial, trivial, (by decide), trivial⟩ ?_
  refine pw_ic hT (c := (Int32.ofNat (pvstab 1040).length) ≤ (0 + 1)) rfl rfl (fun c9_ => absurd c9_ (by decide)) (fun c9_ => ?_)
  refine pw_blk hT 1 (S' := (13, [some (pvI 3), some (pvI 4), some (pvI 0), some (pvI (0 + 1))], [pvI 0], M)) rfl ⟨trivial, trivial⟩ ?_
  refine pw_if hT (c := 0 < 0) rfl rfl (fun c10_ => absurd c10_ (by decide)) (fun c10_ => ?_)
  refine pw_blk hT 2 (S' := (18, [some (pvI 3), some (pvI 4), some (pvI 0), some (pvI (0 + 1))], [pvI 4, pvI 0], M)) rfl ⟨trivial, trivial, trivial⟩ ?_
  refine pw_icn hT (c := 0 = 4) rfl rfl (fun c11_ => ?_) (fun c11_ => absurd c11_ (by decide))
  refine pw_blk hT 1 (S' := (24, [some (pvI 3), some (pvI 4), some (pvI 0), some (pvI (0 + 1))], [pvI 0], M)) rfl ⟨trivial, trivial⟩ ?_
  refine pw_callT hT (as := [pvI 0]) (lo1 := [some (pvI 0)]) (d1 := d) (rest := []) rfl rfl rfl rfl rfl (fun h => absurd h (by decide)) (Nat.zero_le _) rfl rfl rfl (se_X3_above_0 M hok d) ?_
  refine pw_eqI (show ((pvstab 1040).getD (Int32.toNatClampNeg 0) 0) = (-1) from by decide) ?_
  show PW 132 d (27, [some (pvI 3), some (pvI 4), some (pvI 0), some (pvI (0 + 1))], [pvI (-1)], M) _
  refine pw_blk hT 3 (S' := (4, [some (pvI 3), some (pvI 4), some (pvI (-1)), some (pvI ((0 + 1) + 1))], [], M)) rfl ⟨trivial, trivial, trivial, trivial⟩ ?_
  refine pw_blk hT 3 (S' := (9, [some (pvI 3), some (pvI 4), some (pvI (-1)), some (pvI ((0 + 1) + 1))], [pvI (Int32.ofNat (pvstab 1040).length), pvI ((0 + 1) + 1)], M)) rfl ⟨trivial, trivial, (by decide), trivial⟩ ?_
  refine pw_ic hT (c := (Int32.ofNat (pvstab 1040).length) ≤ ((0 + 1) + 1)) rfl rfl (fun c17_ => absurd c17_ (by decide)) (fun c17_ => ?_)
  refine pw_blk hT 1 (S' := (13, [some (pvI 3), some (pvI 4), some (pvI (-1)), some (pvI ((0 + 1) + 1))], [pvI (-1)], M)) rfl ⟨trivial, trivial⟩ ?_
  refine pw_if hT (c := (-1) < 0) rfl rfl (fun c18_ => ?_) (fun c18_ => absurd (by decide) c18_)
  refine pw_blk hT 1 (S' := (35, [some (pvI 3), some (pvI 4), some (pvI (-1)), some (pvI ((0 + 1) + 1))], [pvI 0], M)) rfl ⟨trivial, trivial⟩ ?_
  exact pw_ret hT rfl (r := some (pvI 0)) (M' := M) ⟨Or.inl rfl, rfl, rfl⟩ ⟨rfl, rfl⟩
set_option maxHeartbeats 4000000 in
set_option maxRecDepth 10000 in
theorem se_X3_isUnder_3_5 (M : pvM) (hok : pvOk M) (d : Nat) : PW 132 d (0, [some (pvI 3), some (pvI 5), none, none], [], M) (fun r X => r = some (pvI (0)) ∧ X = M) := by
  have hT : pvdom 132 = pvD_132 := rfl
  refine pw_blk hT 4 (S' := (4, [some (pvI 3), some (pvI 5), some (pvI 3), some (pvI 0)], [], M)) rfl ⟨trivial, trivial, trivial, trivial, trivial⟩ ?_
  refine pw_blk hT 3 (S' := (9, [some (pvI 3), some (pvI 5), some (pvI 3), some (pvI 0)], [pvI (Int32.ofNat (pvstab 1040).length), pvI 0], M)) rfl ⟨trivial, trivial, (by decide), trivial⟩ ?_
  refine pw_ic hT (c := (Int32.ofNat (pvstab 1040).length) ≤ 0) rfl rfl (fun c1_ => absurd c1_ (by decide)) (fun c1_ => ?_)
  refine pw_blk hT 1 (S' := (13, [some (pvI 3), some (pvI 5), some (pvI 3), some (pvI 0)], [pvI 3], M)) rfl ⟨trivial, trivial⟩ ?_
  refine pw_if hT (c := 3 < 0) rfl rfl (fun c2_ => absurd c2_ (by decide)) (fun c2_ => ?_)
  refine pw_blk hT 2 (S' := (18, [some (pvI 3), some (pvI 5), some (pvI 3), some (pvI 0)], [pvI 5, pvI 3], M)) rfl ⟨trivial, trivial, trivial⟩ ?_
  refine pw_icn hT (c := 3 = 5) rfl rfl (fun c3_ => ?_) (fun c3_ => absurd c3_ (by decide))
  refine pw_blk hT 1 (S' := (24, [some (pvI 3), some (pvI 5), some (pvI 3), some (pvI 0)], [pvI 3], M)) rfl ⟨trivial, trivial⟩ ?_
  refine pw_callT hT (as := [pvI 3]) (lo1 := [some (pvI 3)]) (d1 := d) (rest := []) rfl rfl rfl rfl rfl (fun h => absurd h (by decide)) (Nat.zero_le _) rfl rfl rfl (se_X3_above_3 M hok d) ?_
  refine pw_eqI (show ((pvstab 1040).getD (Int32.toNatClampNeg 3) 0) = 0 from by decide) ?_
  show PW 132 d (27, [some (pvI 3), some (pvI 5), some (pvI 3), some (pvI 0)], [pvI 0], M) _
  refine pw_blk hT 3 (S' := (4, [some (pvI 3), some (pvI 5), some (pvI 0), some (pvI (0 + 1))], [], M)) rfl ⟨trivial, trivial, trivial, trivial⟩ ?_
  refine pw_blk hT 3 (S' := (9, [some (pvI 3), some (pvI 5), some (pvI 0), some (pvI (0 + 1))], [pvI (Int32.ofNat (pvstab 1040).length), pvI (0 + 1)], M)) rfl ⟨trivial, trivial, (by decide), trivial⟩ ?_
  refine pw_ic hT (c := (Int32.ofNat (pvstab 1040).length) ≤ (0 + 1)) rfl rfl (fun c9_ => absurd c9_ (by decide)) (fun c9_ => ?_)
  refine pw_blk hT 1 (S' := (13, [some (pvI 3), some (pvI 5), some (pvI 0), some (pvI (0 + 1))], [pvI 0], M)) rfl ⟨trivial, trivial⟩ ?_
  refine pw_if hT (c := 0 < 0) rfl rfl (fun c10_ => absurd c10_ (by decide)) (fun c10_ => ?_)
  refine pw_blk hT 2 (S' := (18, [some (pvI 3), some (pvI 5), some (pvI 0), some (pvI (0 + 1))], [pvI 5, pvI 0], M)) rfl ⟨trivial, trivial, trivial⟩ ?_
  refine pw_icn hT (c := 0 = 5) rfl rfl (fun c11_ => ?_) (fun c11_ => absurd c11_ (by decide))
  refine pw_blk hT 1 (S' := (24, [some (pvI 3), some (pvI 5), some (pvI 0), some (pvI (0 + 1))], [pvI 0], M)) rfl ⟨trivial, trivial⟩ ?_
  refine pw_callT hT (as := [pvI 0]) (lo1 := [some (pvI 0)]) (d1 := d) (rest := []) rfl rfl rfl rfl rfl (fun h => absurd h (by decide)) (Nat.zero_le _) rfl rfl rfl (se_X3_above_0 M hok d) ?_
  refine pw_eqI (show ((pvstab 1040).getD (Int32.toNatClampNeg 0) 0) = (-1) from by decide) ?_
  show PW 132 d (27, [some (pvI 3), some (pvI 5), some (pvI 0), some (pvI (0 + 1))], [pvI (-1)], M) _
  refine pw_blk hT 3 (S' := (4, [some (pvI 3), some (pvI 5), some (pvI (-1)), some (pvI ((0 + 1) + 1))], [], M)) rfl ⟨trivial, trivial, trivial, trivial⟩ ?_
  refine pw_blk hT 3 (S' := (9, [some (pvI 3), some (pvI 5), some (pvI (-1)), some (pvI ((0 + 1) + 1))], [pvI (Int32.ofNat (pvstab 1040).length), pvI ((0 + 1) + 1)], M)) rfl ⟨trivial, trivial, (by decide), trivial⟩ ?_
  refine pw_ic hT (c := (Int32.ofNat (pvstab 1040).length) ≤ ((0 + 1) + 1)) rfl rfl (fun c17_ => absurd c17_ (by decide)) (fun c17_ => ?_)
  refine pw_blk hT 1 (S' := (13, [some (pvI 3), some (pvI 5), some (pvI (-1)), some (pvI ((0 + 1) + 1))], [pvI (-1)], M)) rfl ⟨trivial, trivial⟩ ?_
  refine pw_if hT (c := (-1) < 0) rfl rfl (fun c18_ => ?_) (fun c18_ => absurd (by decide) c18_)
  refine pw_blk hT 1 (S' := (35, [some (pvI 3), some (pvI 5), some (pvI (-1)), some (pvI ((0 + 1) + 1))], [pvI 0], M)) rfl ⟨trivial, trivial⟩ ?_
  exact pw_ret hT rfl (r := some (pvI 0)) (M' := M) ⟨Or.inl rfl, rfl, rfl⟩ ⟨rfl, rfl⟩
set_option maxHeartbeats 4000000 in
set_option maxRecDepth 10000 in
theorem se_X3_isUnder_3_6 (M : pvM) (hok : pvOk M) (d : Nat) : PW 132 d (0, [some (pvI 3), some (pvI 6), none, none], [], M) (fun r X => r = some (pvI (0)) ∧ X = M) := by
  have hT : pvdom 132 = pvD_132 := rfl
  refine pw_blk hT 4 (S' := (4, [some (pvI 3), some (pvI 6), some (pvI 3), some (pvI 0)], [], M)) rfl ⟨trivial, trivial, trivial, trivial, trivial⟩ ?_
  refine pw_blk hT 3 (S' := (9, [some (pvI 3), some (pvI 6), some (pvI 3), some (pvI 0)], [pvI (Int32.ofNat (pvstab 1040).length), pvI 0], M)) rfl ⟨trivial, trivial, (by decide), trivial⟩ ?_
  refine pw_ic hT (c := (Int32.ofNat (pvstab 1040).length) ≤ 0) rfl rfl (fun c1_ => absurd c1_ (by decide)) (fun c1_ => ?_)
  refine pw_blk hT 1 (S' := (13, [some (pvI 3), some (pvI 6), some (pvI 3), some (pvI 0)], [pvI 3], M)) rfl ⟨trivial, trivial⟩ ?_
  refine pw_if hT (c := 3 < 0) rfl rfl (fun c2_ => absurd c2_ (by decide)) (fun c2_ => ?_)
  refine pw_blk hT 2 (S' := (18, [some (pvI 3), some (pvI 6), some (pvI 3), some (pvI 0)], [pvI 6, pvI 3], M)) rfl ⟨trivial, trivial, trivial⟩ ?_
  refine pw_icn hT (c := 3 = 6) rfl rfl (fun c3_ => ?_) (fun c3_ => absurd c3_ (by decide))
  refine pw_blk hT 1 (S' := (24, [some (pvI 3), some (pvI 6), some (pvI 3), some (pvI 0)], [pvI 3], M)) rfl ⟨trivial, trivial⟩ ?_
  refine pw_callT hT (as := [pvI 3]) (lo1 := [some (pvI 3)]) (d1 := d) (rest := []) rfl rfl rfl rfl rfl (fun h => absurd h (by decide)) (Nat.zero_le _) rfl rfl rfl (se_X3_above_3 M hok d) ?_
  refine pw_eqI (show ((pvstab 1040).getD (Int32.toNatClampNeg 3) 0) = 0 from by decide) ?_
  show PW 132 d (27, [some (pvI 3), some (pvI 6), some (pvI 3), some (pvI 0)], [pvI 0], M) _
  refine pw_blk hT 3 (S' := (4, [some (pvI 3), some (pvI 6), some (pvI 0), some (pvI (0 + 1))], [], M)) rfl ⟨trivial, trivial, trivial, trivial⟩ ?_
  refine pw_blk hT 3 (S' := (9, [some (pvI 3), some (pvI 6), some (pvI 0), some (pvI (0 + 1))], [pvI (Int32.ofNat (pvstab 1040).length), pvI (0 + 1)], M)) rfl ⟨trivial, trivial, (by decide), trivial⟩ ?_
  refine pw_ic hT (c := (Int32.ofNat (pvstab 1040).length) ≤ (0 + 1)) rfl rfl (fun c9_ => absurd c9_ (by decide)) (fun c9_ => ?_)
  refine pw_blk hT 1 (S' := (13, [some (pvI 3), some (pvI 6), some (pvI 0), some (pvI (0 + 1))], [pvI 0], M)) rfl ⟨trivial, trivial⟩ ?_
  refine pw_if hT (c := 0 < 0) rfl rfl (fun c10_ => absurd c10_ (by decide)) (fun c10_ => ?_)
  refine pw_blk hT 2 (S' := (18, [some (pvI 3), some (pvI 6), some (pvI 0), some (pvI (0 + 1))], [pvI 6, pvI 0], M)) rfl ⟨trivial, trivial, trivial⟩ ?_
  refine pw_icn hT (c := 0 = 6) rfl rfl (fun c11_ => ?_) (fun c11_ => absurd c11_ (by decide))
  refine pw_blk hT 1 (S' := (24, [some (pvI 3), some (pvI 6), some (pvI 0), some (pvI (0 + 1))], [pvI 0], M)) rfl ⟨trivial, trivial⟩ ?_
  refine pw_callT hT (as := [pvI 0]) (lo1 := [some (pvI 0)]) (d1 := d) (rest := []) rfl rfl rfl rfl rfl (fun h => absurd h (by decide)) (Nat.zero_le _) rfl rfl rfl (se_X3_above_0 M hok d) ?_
  refine pw_eqI (show ((pvstab 1040).getD (Int32.toNatClampNeg 0) 0) = (-1) from by decide) ?_
  show PW 132 d (27, [some (pvI 3), some (pvI 6), some (pvI 0), some (pvI (0 + 1))], [pvI (-1)], M) _
  refine pw_blk hT 3 (S' := (4, [some (pvI 3), some (pvI 6), some (pvI (-1)), some (pvI ((0 + 1) + 1))], [], M)) rfl ⟨trivial, trivial, trivial, trivial⟩ ?_
  refine pw_blk hT 3 (S' := (9, [some (pvI 3), some (pvI 6), some (pvI (-1)), some (pvI ((0 + 1) + 1))], [pvI (Int32.ofNat (pvstab 1040).length), pvI ((0 + 1) + 1)], M)) rfl ⟨trivial, trivial, (by decide), trivial⟩ ?_
  refine pw_ic hT (c := (Int32.ofNat (pvstab 1040).length) ≤ ((0 + 1) + 1)) rfl rfl (fun c17_ => absurd c17_ (by decide)) (fun c17_ => ?_)
  refine pw_blk hT 1 (S' := (13, [some (pvI 3), some (pvI 6), some (pvI (-1)), some (pvI ((0 + 1) + 1))], [pvI (-1)], M)) rfl ⟨trivial, trivial⟩ ?_
  refine pw_if hT (c := (-1) < 0) rfl rfl (fun c18_ => ?_) (fun c18_ => absurd (by decide) c18_)
  refine pw_blk hT 1 (S' := (35, [some (pvI 3), some (pvI 6), some (pvI (-1)), some (pvI ((0 + 1) + 1))], [pvI 0], M)) rfl ⟨trivial, trivial⟩ ?_
  exact pw_ret hT rfl (r := some (pvI 0)) (M' := M) ⟨Or.inl rfl, rfl, rfl⟩ ⟨rfl, rfl⟩
set_option maxHeartbeats 4000000 in
set_option maxRecDepth 10000 in
theorem se_X3_isUnder_4_0 (M : pvM) (hok : pvOk M) (d : Nat) : PW 132 d (0, [some (pvI 4), some (pvI 0), none, none], [], M) (fun r X => r = some (pvI (1)) ∧ X = M) := by
  have hT : pvdom 132 = pvD_132 := rfl
  refine pw_blk hT 4 (S' := (4, [some (pvI 4), some (pvI 0), some (pvI 4), some (pvI 0)], [], M)) rfl ⟨trivial, trivial, trivial, trivial, trivial⟩ ?_
  refine pw_blk hT 3 (S' := (9, [some (pvI 4), some (pvI 0), some (pvI 4), some (pvI 0)], [pvI (Int32.ofNat (pvstab 1040).length), pvI 0], M)) rfl ⟨trivial, trivial, (by decide), trivial⟩ ?_
  refine pw_ic hT (c := (Int32.ofNat (pvstab 1040).length) ≤ 0) rfl rfl (fun c1_ => absurd c1_ (by decide)) (fun c1_ => ?_)
  refine pw_blk hT 1 (S' := (13, [some (pvI 4), some (pvI 0), some (pvI 4), some (pvI 0)], [pvI 4], M)) rfl ⟨trivial, trivial⟩ ?_
  refine pw_if hT (c := 4 < 0) rfl rfl (fun c2_ => absurd c2_ (by decide)) (fun c2_ => ?_)
  refine pw_blk hT 2 (S' := (18, [some (pvI 4), some (pvI 0), some (pvI 4), some (pvI 0)], [pvI 0, pvI 4], M)) rfl ⟨trivial, trivial, trivial⟩ ?_
  refine pw_icn hT (c := 4 = 0) rfl rfl (fun c3_ => ?_) (fun c3_ => absurd c3_ (by decide))
  refine pw_blk hT 1 (S' := (24, [some (pvI 4), some (pvI 0), some (pvI 4), some (pvI 0)], [pvI 4], M)) rfl ⟨trivial, trivial⟩ ?_
  refine pw_callT hT (as := [pvI 4]) (lo1 := [some (pvI 4)]) (d1 := d) (rest := []) rfl rfl rfl rfl rfl (fun h => absurd h (by decide)) (Nat.zero_le _) rfl rfl rfl (se_X3_above_4 M hok d) ?_
  refine pw_eqI (show ((pvstab 1040).getD (Int32.toNatClampNeg 4) 0) = 1 from by decide) ?_
  show PW 132 d (27, [some (pvI 4), some (pvI 0), some (pvI 4), some (pvI 0)], [pvI 1], M) _
  refine pw_blk hT 3 (S' := (4, [some (pvI 4), some (pvI 0), some (pvI 1), some (pvI (0 + 1))], [], M)) rfl ⟨trivial, trivial, trivial, trivial⟩ ?_
  refine pw_blk hT 3 (S' := (9, [some (pvI 4), some (pvI 0), some (pvI 1), some (pvI (0 + 1))], [pvI (Int32.ofNat (pvstab 1040).length), pvI (0 + 1)], M)) rfl ⟨trivial, trivial, (by decide), trivial⟩ ?_
  refine pw_ic hT (c := (Int32.ofNat (pvstab 1040).length) ≤ (0 + 1)) rfl rfl (fun c9_ => absurd c9_ (by decide)) (fun c9_ => ?_)
  refine pw_blk hT 1 (S' := (13, [some (pvI 4), some (pvI 0), some (pvI 1), some (pvI (0 + 1))], [pvI 1], M)) rfl ⟨trivial, trivial⟩ ?_
  refine pw_if hT (c := 1 < 0) rfl rfl (fun c10_ => absurd c10_ (by decide)) (fun c10_ => ?_)
  refine pw_blk hT 2 (S' := (18, [some (pvI 4), some (pvI 0), some (pvI 1), some (pvI (0 + 1))], [pvI 0, pvI 1], M)) rfl ⟨trivial, trivial, trivial⟩ ?_
  refine pw_icn hT (c := 1 = 0) rfl rfl (fun c11_ => ?_) (fun c11_ => absurd c11_ (by decide))
  refine pw_blk hT 1 (S' := (24, [some (pvI 4), some (pvI 0), some (pvI 1), some (pvI (0 + 1))], [pvI 1], M)) rfl ⟨trivial, trivial⟩ ?_
  refine pw_callT hT (as := [pvI 1]) (lo1 := [some (pvI 1)]) (d1 := d) (rest := []) rfl rfl rfl rfl rfl (fun h => absurd h (by decide)) (Nat.zero_le _) rfl rfl rfl (se_X3_above_1 M hok d) ?_
  refine pw_eqI (show ((pvstab 1040).getD (Int32.toNatClampNeg 1) 0) = 0 from by decide) ?_
  show PW 132 d (27, [some (pvI 4), some (pvI 0), some (pvI 1), some (pvI (0 + 1))], [pvI 0], M) _
  refine pw_blk hT 3 (S' := (4, [some (pvI 4), some (pvI 0), some (pvI 0), some (pvI ((0 + 1) + 1))], [], M)) rfl ⟨trivial, trivial, trivial, trivial⟩ ?_
  refine pw_blk hT 3 (S' := (9, [some (pvI 4), some (pvI 0), some (pvI 0), some (pvI ((0 + 1) + 1))], [pvI (Int32.ofNat (pvstab 1040).length), pvI ((0 + 1) + 1)], M)) rfl ⟨trivial, trivial, (by decide), trivial⟩ ?_
  refine pw_ic hT (c := (Int32.ofNat (pvstab 1040).length) ≤ ((0 + 1) + 1)) rfl rfl (fun c17_ => absurd c17_ (by decide)) (fun c17_ => ?_)
  refine pw_blk hT 1 (S' := (13, [some (pvI 4), some (pvI 0), some (pvI 0), some (pvI ((0 + 1) + 1))], [pvI 0], M)) rfl ⟨trivial, trivial⟩ ?_
  refine pw_if hT (c := 0 < 0) rfl rfl (fun c18_ => absurd c18_ (by decide)) (fun c18_ => ?_)
  refine pw_blk hT 2 (S' := (18, [some (pvI 4), some (pvI 0), some (pvI 0), some (pvI ((0 + 1) + 1))], [pvI 0, pvI 0], M)) rfl ⟨trivial, trivial, trivial⟩ ?_
  refine pw_icn hT (c := 0 = 0) rfl rfl (fun c19_ => absurd (by decide) c19_) (fun c19_ => ?_)
  refine pw_blk hT 1 (S' := (22, [some (pvI 4), some (pvI 0), some (pvI 0), some (pvI ((0 + 1) + 1))], [pvI 1], M)) rfl ⟨trivial, trivial⟩ ?_
  exact pw_ret hT rfl (r := some (pvI 1)) (M' := M) ⟨Or.inr rfl, rfl, rfl⟩ ⟨rfl, rfl⟩
set_option maxHeartbeats 4000000 in
set_option maxRecDepth 10000 in
theorem se_X3_isUnder_4_1 (M : pvM) (hok : pvOk M) (d : Nat) : PW 132 d (0, [some (pvI 4), some (pvI 1), none, none], [], M) (fun r X => r = some (pvI (1)) ∧ X = M) := by
  have hT : pvdom 132 = pvD_132 := rfl
  refine pw_blk hT 4 (S' := (4, [some (pvI 4), some (pvI 1), some (pvI 4), some (pvI 0)], [], M)) rfl ⟨trivial, trivial, trivial, trivial, trivial⟩ ?_
  refine pw_blk hT 3 (S' := (9, [some (pvI 4), some (pvI 1), some (pvI 4), some (pvI 0)], [pvI (Int32.ofNat (pvstab 1040).length), pvI 0], M)) rfl ⟨trivial, trivial, (by decide), trivial⟩ ?_
  refine pw_ic hT (c := (Int32.ofNat (pvstab 1040).length) ≤ 0) rfl rfl (fun c1_ => absurd c1_ (by decide)) (fun c1_ => ?_)
  refine pw_blk hT 1 (S' := (13, [some (pvI 4), some (pvI 1), some (pvI 4), some (pvI 0)], [pvI 4], M)) rfl ⟨trivial, trivial⟩ ?_
  refine pw_if hT (c := 4 < 0) rfl rfl (fun c2_ => absurd c2_ (by decide)) (fun c2_ => ?_)
  refine pw_blk hT 2 (S' := (18, [some (pvI 4), some (pvI 1), some (pvI 4), some (pvI 0)], [pvI 1, pvI 4], M)) rfl ⟨trivial, trivial, trivial⟩ ?_
  refine pw_icn hT (c := 4 = 1) rfl rfl (fun c3_ => ?_) (fun c3_ => absurd c3_ (by decide))
  refine pw_blk hT 1 (S' := (24, [some (pvI 4), some (pvI 1), some (pvI 4), some (pvI 0)], [pvI 4], M)) rfl ⟨trivial, trivial⟩ ?_
  refine pw_callT hT (as := [pvI 4]) (lo1 := [some (pvI 4)]) (d1 := d) (rest := []) rfl rfl rfl rfl rfl (fun h => absurd h (by decide)) (Nat.zero_le _) rfl rfl rfl (se_X3_above_4 M hok d) ?_
  refine pw_eqI (show ((pvstab 1040).getD (Int32.toNatClampNeg 4) 0) = 1 from by decide) ?_
  show PW 132 d (27, [some (pvI 4), some (pvI 1), some (pvI 4), some (pvI 0)], [pvI 1], M) _
  refine pw_blk hT 3 (S' := (4, [some (pvI 4), some (pvI 1), some (pvI 1), some (pvI (0 + 1))], [], M)) rfl ⟨trivial, trivial, trivial, trivial⟩ ?_
  refine pw_blk hT 3 (S' := (9, [some (pvI 4), some (pvI 1), some (pvI 1), some (pvI (0 + 1))], [pvI (Int32.ofNat (pvstab 1040).length), pvI (0 + 1)], M)) rfl ⟨trivial, trivial, (by decide), trivial⟩ ?_
  refine pw_ic hT (c := (Int32.ofNat (pvstab 1040).length) ≤ (0 + 1)) rfl rfl (fun c9_ => absurd c9_ (by decide)) (fun c9_ => ?_)
  refine pw_blk hT 1 (S' := (13, [some (pvI 4), some (pvI 1), some (pvI 1), some (pvI (0 + 1))], [pvI 1], M)) rfl ⟨trivial, trivial⟩ ?_
  refine pw_if hT (c := 1 < 0) rfl rfl (fun c10_ => absurd c10_ (by decide)) (fun c10_ => ?_)
  refine pw_blk hT 2 (S' := (18, [some (pvI 4), some (pvI 1), some (pvI 1), some (pvI (0 + 1))], [pvI 1, pvI 1], M)) rfl ⟨trivial, trivial, trivial⟩ ?_
  refine pw_icn hT (c := 1 = 1) rfl rfl (fun c11_ => absurd (by decide) c11_) (fun c11_ => ?_)
  refine pw_blk hT 1 (S' := (22, [some (pvI 4), some (pvI 1), some (pvI 1), some (pvI (0 + 1))], [pvI 1], M)) rfl ⟨trivial, trivial⟩ ?_
  exact pw_ret hT rfl (r := some (pvI 1)) (M' := M) ⟨Or.inr rfl, rfl, rfl⟩ ⟨rfl, rfl⟩
set_option maxHeartbeats 4000000 in
set_option maxRecDepth 10000 in
theorem se_X3_isUnder_4_2 (M : pvM) (hok : pvOk M) (d : Nat) : PW 132 d (0, [some (pvI 4), some (pvI 2), none, none], [], M) (fun r X => r = some (pvI (0)) ∧ X = M) := by
  have hT : pvdom 132 = pvD_132 := rfl
  refine pw_blk hT 4 (S' := (4, [some (pvI 4), some (pvI 2), some (pvI 4), some (pvI 0)], [], M)) rfl ⟨trivial, trivial, trivial, trivial, trivial⟩ ?_
  refine pw_blk hT 3 (S' := (9, [some (pvI 4), some (pvI 2), some (pvI 4), some (pvI 0)], [pvI (Int32.ofNat (pvstab 1040).length), pvI 0], M)) rfl ⟨trivial, trivial, (by decide), trivial⟩ ?_
  refine pw_ic hT (c := (Int32.ofNat (pvstab 1040).length) ≤ 0) rfl rfl (fun c1_ => absurd c1_ (by decide)) (fun c1_ => ?_)
  refine pw_blk hT 1 (S' := (13, [some (pvI 4), some (pvI 2), some (pvI 4), some (pvI 0)], [pvI 4], M)) rfl ⟨trivial, trivial⟩ ?_
  refine pw_if hT (c := 4 < 0) rfl rfl (fun c2_ => absurd c2_ (by decide)) (fun c2_ => ?_)
  refine pw_blk hT 2 (S' := (18, [some (pvI 4), some (pvI 2), some (pvI 4), some (pvI 0)], [pvI 2, pvI 4], M)) rfl ⟨trivial, trivial, trivial⟩ ?_
  refine pw_icn hT (c := 4 = 2) rfl rfl (fun c3_ => ?_) (fun c3_ => absurd c3_ (by decide))
  refine pw_blk hT 1 (S' := (24, [some (pvI 4), some (pvI 2), some (pvI 4), some (pvI 0)], [pvI 4], M)) rfl ⟨trivial, trivial⟩ ?_
  refine pw_callT hT (as := [pvI 4]) (lo1 := [some (pvI 4)]) (d1 := d) (rest := []) rfl rfl rfl rfl rfl (fun h => absurd h (by decide)) (Nat.zero_le _) rfl rfl rfl (se_X3_above_4 M hok d) ?_
  refine pw_eqI (show ((pvstab 1040).getD (Int32.toNatClampNeg 4) 0) = 1 from by decide) ?_
  show PW 132 d (27, [some (pvI 4), some (pvI 2), some (pvI 4), some (pvI 0)], [pvI 1], M) _
  refine pw_blk hT 3 (S' := (4, [some (pvI 4), some (pvI 2), some (pvI 1), some (pvI (0 + 1))], [], M)) rfl ⟨trivial, trivial, trivial, trivial⟩ ?_
  refine pw_blk hT 3 (S' := (9, [some (pvI 4), some (pvI 2), some (pvI 1), some (pvI (0 + 1))], [pvI (Int32.ofNat (pvstab 1040).length), pvI (0 + 1)], M)) rfl ⟨trivial, trivial, (by decide), trivial⟩ ?_
  refine pw_ic hT (c := (Int32.ofNat (pvstab 1040).length) ≤ (0 + 1)) rfl rfl (fun c9_ => absurd c9_ (by decide)) (fun c9_ => ?_)
  refine pw_blk hT 1 (S' := (13, [some (pvI 4), some (pvI 2), some (pvI 1), some (pvI (0 + 1))], [pvI 1], M)) rfl ⟨trivial, trivial⟩ ?_
  refine pw_if hT (c := 1 < 0) rfl rfl (fun c10_ => absurd c10_ (by decide)) (fun c10_ => ?_)
  refine pw_blk hT 2 (S' := (18, [some (pvI 4), some (pvI 2), some (pvI 1), some (pvI (0 + 1))], [pvI 2, pvI 1], M)) rfl ⟨trivial, trivial, trivial⟩ ?_
  refine pw_icn hT (c := 1 = 2) rfl rfl (fun c11_ => ?_) (fun c11_ => absurd c11_ (by decide))
  refine pw_blk hT 1 (S' := (24, [some (pvI 4), some (pvI 2), some (pvI 1), some (pvI (0 + 1))], [pvI 1], M)) rfl ⟨trivial, trivial⟩ ?_
  refine pw_callT hT (as := [pvI 1]) (lo1 := [some (pvI 1)]) (d1 := d) (rest := []) rfl rfl rfl rfl rfl (fun h => absurd h (by decide)) (Nat.zero_le _) rfl rfl rfl (se_X3_above_1 M hok d) ?_
  refine pw_eqI (show ((pvstab 1040).getD (Int32.toNatClampNeg 1) 0) = 0 from by decide) ?_
  show PW 132 d (27, [some (pvI 4), some (pvI 2), some (pvI 1), some (pvI (0 + 1))], [pvI 0], M) _
  refine pw_blk hT 3 (S' := (4, [some (pvI 4), some (pvI 2), some (pvI 0), some (pvI ((0 + 1) + 1))], [], M)) rfl ⟨trivial, trivial, trivial, trivial⟩ ?_
  refine pw_blk hT 3 (S' := (9, [some (pvI 4), some (pvI 2), some (pvI 0), some (pvI ((0 + 1) + 1))], [pvI (Int32.ofNat (pvstab 1040).length), pvI ((0 + 1) + 1)], M)) rfl ⟨trivial, trivial, (by decide), trivial⟩ ?_
  refine pw_ic hT (c := (Int32.ofNat (pvstab 1040).length) ≤ ((0 + 1) + 1)) rfl rfl (fun c17_ => absurd c17_ (by decide)) (fun c17_ => ?_)
  refine pw_blk hT 1 (S' := (13, [some (pvI 4), some (pvI 2), some (pvI 0), some (pvI ((0 + 1) + 1))], [pvI 0], M)) rfl ⟨trivial, trivial⟩ ?_
  refine pw_if hT (c := 0 < 0) rfl rfl (fun c18_ => absurd c18_ (by decide)) (fun c18_ => ?_)
  refine pw_blk hT 2 (S' := (18, [some (pvI 4), some (pvI 2), some (pvI 0), some (pvI ((0 + 1) + 1))], [pvI 2, pvI 0], M)) rfl ⟨trivial, trivial, trivial⟩ ?_
  refine pw_icn hT (c := 0 = 2) rfl rfl (fun c19_ => ?_) (fun c19_ => absurd c19_ (by decide))
  refine pw_blk hT 1 (S' := (24, [some (pvI 4), some (pvI 2), some (pvI 0), some (pvI ((0 + 1) + 1))], [pvI 0], M)) rfl ⟨trivial, trivial⟩ ?_
  refine pw_callT hT (as := [pvI 0]) (lo1 := [some (pvI 0)]) (d1 := d) (rest := []) rfl rfl rfl rfl rfl (fun h => absurd h (by decide)) (Nat.zero_le _) rfl rfl rfl (se_X3_above_0 M hok d) ?_
  refine pw_eqI (show ((pvstab 1040).getD (Int32.toNatClampNeg 0) 0) = (-1) from by decide) ?_
  show PW 132 d (27, [some (pvI 4), some (pvI 2), some (pvI 0), some (pvI ((0 + 1) + 1))], [pvI (-1)], M) _
  refine pw_blk hT 3 (S' := (4, [some (pvI 4), some (pvI 2), some (pvI (-1)), some (pvI (((0 + 1) + 1) + 1))], [], M)) rfl ⟨trivial, trivial, trivial, trivial⟩ ?_
  refine pw_blk hT 3 (S' := (9, [some (pvI 4), some (pvI 2), some (pvI (-1)), some (pvI (((0 + 1) + 1) + 1))], [pvI (Int32.ofNat (pvstab 1040).length), pvI (((0 + 1) + 1) + 1)], M)) rfl ⟨trivial, trivial, (by decide), trivial⟩ ?_
  refine pw_ic hT (c := (Int32.ofNat (pvstab 1040).length) ≤ (((0 + 1) + 1) + 1)) rfl rfl (fun c25_ => absurd c25_ (by decide)) (fun c25_ => ?_)
  refine pw_blk hT 1 (S' := (13, [some (pvI 4), some (pvI 2), some (pvI (-1)), some (pvI (((0 + 1) + 1) + 1))], [pvI (-1)], M)) rfl ⟨trivial, trivial⟩ ?_
  refine pw_if hT (c := (-1) < 0) rfl rfl (fun c26_ => ?_) (fun c26_ => absurd (by decide) c26_)
  refine pw_blk hT 1 (S' := (35, [some (pvI 4), some (pvI 2), some (pvI (-1)), some (pvI (((0 + 1) + 1) + 1))], [pvI 0], M)) rfl ⟨trivial, trivial⟩ ?_
  exact pw_ret hT rfl (r := some (pvI 0)) (M' := M) ⟨Or.inl rfl, rfl, rfl⟩ ⟨rfl, rfl⟩
set_option maxHeartbeats 4000000 in
set_option maxRecDepth 10000 in
theorem se_X3_isUnder_4_3 (M : pvM) (hok : pvOk M) (d : Nat) : PW 132 d (0, [some (pvI 4), some (pvI 3), none, none], [], M) (fun r X => r = some (pvI (0)) ∧ X = M) := by
  have hT : pvdom 132 = pvD_132 := rfl
  refine pw_blk hT 4 (S' := (4, [some (pvI 4), some (pvI 3), some (pvI 4), some (pvI 0)], [], M)) rfl ⟨trivial, trivial, trivial, trivial, trivial⟩ ?_
  refine pw_blk hT 3 (S' := (9, [some (pvI 4), some (pvI 3), some (pvI 4), some (pvI 0)], [pvI (Int32.ofNat (pvstab 1040).length), pvI 0], M)) rfl ⟨trivial, trivial, (by decide), trivial⟩ ?_
  refine pw_ic hT (c := (Int32.ofNat (pvstab 1040).length) ≤ 0) rfl rfl (fun c1_ => absurd c1_ (by decide)) (fun c1_ => ?_)
  refine pw_blk hT 1 (S' := (13, [some (pvI 4), some (pvI 3), some (pvI 4), some (pvI 0)], [pvI 4], M)) rfl ⟨trivial, trivial⟩ ?_
  refine pw_if hT (c := 4 < 0) rfl rfl (fun c2_ => absurd c2_ (by decide)) (fun c2_ => ?_)
  refine pw_blk hT 2 (S' := (18, [some (pvI 4), some (pvI 3), some (pvI 4), some (pvI 0)], [pvI 3, pvI 4], M)) rfl ⟨trivial, trivial, trivial⟩ ?_
  refine pw_icn hT (c := 4 = 3) rfl rfl (fun c3_ => ?_) (fun c3_ => absurd c3_ (by decide))
  refine pw_blk hT 1 (S' := (24, [some (pvI 4), some (pvI 3), some (pvI 4), some (pvI 0)], [pvI 4], M)) rfl ⟨trivial, trivial⟩ ?_
  refine pw_callT hT (as := [pvI 4]) (lo1 := [some (pvI 4)]) (d1 := d) (rest := []) rfl rfl rfl rfl rfl (fun h => absurd h (by decide)) (Nat.zero_le _) rfl rfl rfl (se_X3_above_4 M hok d) ?_
  refine pw_eqI (show ((pvstab 1040).getD (Int32.toNatClampNeg 4) 0) = 1 from by decide) ?_
  show PW 132 d (27, [some (pvI 4), some (pvI 3), some (pvI 4), some (pvI 0)], [pvI 1], M) _
  refine pw_blk hT 3 (S' := (4, [some (pvI 4), some (pvI 3), some (pvI 1), some (pvI (0 + 1))], [], M)) rfl ⟨trivial, trivial, trivial, trivial⟩ ?_
  refine pw_blk hT 3 (S' := (9, [some (pvI 4), some (pvI 3), some (pvI 1), some (pvI (0 + 1))], [pvI (Int32.ofNat (pvstab 1040).length), pvI (0 + 1)], M)) rfl ⟨trivial, trivial, (by decide), trivial⟩ ?_
  refine pw_ic hT (c := (Int32.ofNat (pvstab 1040).length) ≤ (0 + 1)) rfl rfl (fun c9_ => absurd c9_ (by decide)) (fun c9_ => ?_)
  refine pw_blk hT 1 (S' := (13, [some (pvI 4), some (pvI 3), some (pvI 1), some (pvI (0 + 1))], [pvI 1], M)) rfl ⟨trivial, trivial⟩ ?_
  refine pw_if hT (c := 1 < 0) rfl rfl (fun c10_ => absurd c10_ (by decide)) (fun c10_ => ?_)
  refine pw_blk hT 2 (S' := (18, [some (pvI 4), some (pvI 3), some (pvI 1), some (pvI (0 + 1))], [pvI 3, pvI 1], M)) rfl ⟨trivial, trivial, trivial⟩ ?_
  refine pw_icn hT (c := 1 = 3) rfl rfl (fun c11_ => ?_) (fun c11_ => absurd c11_ (by decide))
  refine pw_blk hT 1 (S' := (24, [some (pvI 4), some (pvI 3), some (pvI 1), some (pvI (0 + 1))], [pvI 1], M)) rfl ⟨trivial, trivial⟩ ?_
  refine pw_callT hT (as := [pvI 1]) (lo1 := [some (pvI 1)]) (d1 := d) (rest := []) rfl rfl rfl rfl rfl (fun h => absurd h (by decide)) (Nat.zero_le _) rfl rfl rfl (se_X3_above_1 M hok d) ?_
  refine pw_eqI (show ((pvstab 1040).getD (Int32.toNatClampNeg 1) 0) = 0 from by decide) ?_
  show PW 132 d (27, [some (pvI 4), some (pvI 3), some (pvI 1), some (pvI (0 + 1))], [pvI 0], M) _
  refine pw_blk hT 3 (S' := (4, [some (pvI 4), some (pvI 3), some (pvI 0), some (pvI ((0 + 1) + 1))], [], M)) rfl ⟨trivial, trivial, trivial, trivial⟩ ?_
  refine pw_blk hT 3 (S' := (9, [some (pvI 4), some (pvI 3), some (pvI 0), some (pvI ((0 + 1) + 1))], [pvI (Int32.ofNat (pvstab 1040).length), pvI ((0 + 1) + 1)], M)) rfl ⟨trivial, trivial, (by decide), trivial⟩ ?_
  refine pw_ic hT (c := (Int32.ofNat (pvstab 1040).length) ≤ ((0 + 1) + 1)) rfl rfl (fun c17_ => absurd c17_ (by decide)) (fun c17_ => ?_)
  refine pw_blk hT 1 (S' := (13, [some (pvI 4), some (pvI 3), some (pvI 0), some (pvI ((0 + 1) + 1))], [pvI 0], M)) rfl ⟨trivial, trivial⟩ ?_
  refine pw_if hT (c := 0 < 0) rfl rfl (fun c18_ => absurd c18_ (by decide)) (fun c18_ => ?_)
  refine pw_blk hT 2 (S' := (18, [some (pvI 4), some (pvI 3), some (pvI 0), some (pvI ((0 + 1) + 1))], [pvI 3, pvI 0], M)) rfl ⟨trivial, trivial, trivial⟩ ?_
  refine pw_icn hT (c := 0 = 3) rfl rfl (fun c19_ => ?_) (fun c19_ => absurd c19_ (by decide))
  refine pw_blk hT 1 (S' := (24, [some (pvI 4), some (pvI 3), some (pvI 0), some (pvI ((0 + 1) + 1))], [pvI 0], M)) rfl ⟨trivial, trivial⟩ ?_
  refine pw_callT hT (as := [pvI 0]) (lo1 := [some (pvI 0)]) (d1 := d) (rest := []) rfl rfl rfl rfl rfl (fun h => absurd h (by decide)) (Nat.zero_le _) rfl rfl rfl (se_X3_above_0 M hok d) ?_
  refine pw_eqI (show ((pvstab 1040).getD (Int32.toNatClampNeg 0) 0) = (-1) from by decide) ?_
  show PW 132 d (27, [some (pvI 4), some (pvI 3), some (pvI 0), some (pvI ((0 + 1) + 1))], [pvI (-1)], M) _
  refine pw_blk hT 3 (S' := (4, [some (pvI 4), some (pvI 3), some (pvI (-1)), some (pvI (((0 + 1) + 1) + 1))], [], M)) rfl ⟨trivial, trivial, trivial, trivial⟩ ?_
  refine pw_blk hT 3 (S' := (9, [some (pvI 4), some (pvI 3), some (pvI (-1)), some (pvI (((0 + 1) + 1) + 1))], [pvI (Int32.ofNat (pvstab 1040).length), pvI (((0 + 1) + 1) + 1)], M)) rfl ⟨trivial, trivial, (by decide), trivial⟩ ?_
  refine pw_ic hT (c := (Int32.ofNat (pvstab 1040).length) ≤ (((0 + 1) + 1) + 1)) rfl rfl (fun c25_ => absurd c25_ (by decide)) (fun c25_ => ?_)
  refine pw_blk hT 1 (S' := (13, [some (pvI 4), some (pvI 3), some (pvI (-1)), some (pvI (((0 + 1) + 1) + 1))], [pvI (-1)], M)) rfl ⟨trivial, trivial⟩ ?_
  refine pw_if hT (c := (-1) < 0) rfl rfl (fun c26_ => ?_) (fun c26_ => absurd (by decide) c26_)
  refine pw_blk hT 1 (S' := (35, [some (pvI 4), some (pvI 3), some (pvI (-1)), some (pvI (((0 + 1) + 1) + 1))], [pvI 0], M)) rfl ⟨trivial, trivial⟩ ?_
  exact pw_ret hT rfl (r := some (pvI 0)) (M' := M) ⟨Or.inl rfl, rfl, rfl⟩ ⟨rfl, rfl⟩
set_option maxHeartbeats 4000000 in
set_option maxRecDepth 10000 in
theorem se_X3_isUnder_4_4 (M : pvM) (hok : pvOk M) (d : Nat) : PW 132 d (0, [some (pvI 4), some (pvI 4), none, none], [], M) (fun r X => r = some (pvI (1)) ∧ X = M) := by
  have hT : pvdom 132 = pvD_132 := rfl
  refine pw_blk hT 4 (S' := (4, [some (pvI 4), some (pvI 4), some (pvI 4), some (pvI 0)], [], M)) rfl ⟨trivial, trivial, trivial, trivial, trivial⟩ ?_
  refine pw_blk hT 3 (S' := (9, [some (pvI 4), some (pvI 4), some (pvI 4), some (pvI 0)], [pvI (Int32.ofNat (pvstab 1040).length), pvI 0], M)) rfl ⟨trivial, trivial, (by decide), trivial⟩ ?_
  refine pw_ic hT (c := (Int32.ofNat (pvstab 1040).length) ≤ 0) rfl rfl (fun c1_ => absurd c1_ (by decide)) (fun c1_ => ?_)
  refine pw_blk hT 1 (S' := (13, [some (pvI 4), some (pvI 4), some (pvI 4), some (pvI 0)], [pvI 4], M)) rfl ⟨trivial, trivial⟩ ?_
  refine pw_if hT (c := 4 < 0) rfl rfl (fun c2_ => absurd c2_ (by decide)) (fun c2_ => ?_)
  refine pw_blk hT 2 (S' := (18, [some (pvI 4), some (pvI 4), some (pvI 4), some (pvI 0)], [pvI 4, pvI 4], M)) rfl ⟨trivial, trivial, trivial⟩ ?_
  refine pw_icn hT (c := 4 = 4) rfl rfl (fun c3_ => absurd (by decide) c3_) (fun c3_ => ?_)
  refine pw_blk hT 1 (S' := (22, [some (pvI 4), some (pvI 4), some (pvI 4), some (pvI 0)], [pvI 1], M)) rfl ⟨trivial, trivial⟩ ?_
  exact pw_ret hT rfl (r := some (pvI 1)) (M' := M) ⟨Or.inr rfl, rfl, rfl⟩ ⟨rfl, rfl⟩
set_option maxHeartbeats 4000000 in
set_option maxRecDepth 10000 in
theorem se_X3_isUnder_4_5 (M : pvM) (hok : pvOk M) (d : Nat) : PW 132 d (0, [some (pvI 4), some (pvI 5), none, none], [], M) (fun r X => r = some (pvI (0)) ∧ X = M) := by
  have hT : pvdom 132 = pvD_132 := rfl
  refine pw_blk hT 4 (S' := (4, [some (pvI 4), some (pvI 5), some (pvI 4), some (pvI 0)], [], M)) rfl ⟨trivial, trivial, trivial, trivial, trivial⟩ ?_
  refine pw_blk hT 3 (S' := (9, [some (pvI 4), some (pvI 5), some (pvI 4), some (pvI 0)], [pvI (Int32.ofNat (pvstab 1040).length), pvI 0], M)) rfl ⟨trivial, trivial, (by decide), trivial⟩ ?_
  refine pw_ic hT (c := (Int32.ofNat (pvstab 1040).length) ≤ 0) rfl rfl (fun c1_ => absurd c1_ (by decide)) (fun c1_ => ?_)
  refine pw_blk hT 1 (S' := (13, [some (pvI 4), some (pvI 5), some (pvI 4), some (pvI 0)], [pvI 4], M)) rfl ⟨trivial, trivial⟩ ?_
  refine pw_if hT (c := 4 < 0) rfl rfl (fun c2_ => absurd c2_ (by decide)) (fun c2_ => ?_)
  refine pw_blk hT 2 (S' := (18, [some (pvI 4), some (pvI 5), some (pvI 4), some (pvI 0)], [pvI 5, pvI 4], M)) rfl ⟨trivial, trivial, trivial⟩ ?_
  refine pw_icn hT (c := 4 = 5) rfl rfl (fun c3_ => ?_) (fun c3_ => absurd c3_ (by decide))
  refine pw_blk hT 1 (S' := (24, [some (pvI 4), some (pvI 5), some (pvI 4), some (pvI 0)], [pvI 4], M)) rfl ⟨trivial, trivial⟩ ?_
  refine pw_callT hT (as := [pvI 4]) (lo1 := [some (pvI 4)]) (d1 := d) (rest := []) rfl rfl rfl rfl rfl (fun h => absurd h (by decide)) (Nat.zero_le _) rfl rfl rfl (se_X3_above_4 M hok d) ?_
  refine pw_eqI (show ((pvstab 1040).getD (Int32.toNatClampNeg 4) 0) = 1 from by decide) ?_
  show PW 132 d (27, [some (pvI 4), some (pvI 5), some (pvI 4), some (pvI 0)], [pvI 1], M) _
  refine pw_blk hT 3 (S' := (4, [some (pvI 4), some (pvI 5), some (pvI 1), some (pvI (0 + 1))], [], M)) rfl ⟨trivial, trivial, trivial, trivial⟩ ?_
  refine pw_blk hT 3 (S' := (9, [some (pvI 4), some (pvI 5), some (pvI 1), some (pvI (0 + 1))], [pvI (Int32.ofNat (pvstab 1040).length), pvI (0 + 1)], M)) rfl ⟨trivial, trivial, (by decide), trivial⟩ ?_
  refine pw_ic hT (c := (Int32.ofNat (pvstab 1040).length) ≤ (0 + 1)) rfl rfl (fun c9_ => absurd c9_ (by decide)) (fun c9_ => ?_)
  refine pw_blk hT 1 (S' := (13, [some (pvI 4), some (pvI 5), some (pvI 1), some (pvI (0 + 1))], [pvI 1], M)) rfl ⟨trivial, trivial⟩ ?_
  refine pw_if hT (c := 1 < 0) rfl rfl (fun c10_ => absurd c10_ (by decide)) (fun c10_ => ?_)
  refine pw_blk hT 2 (S' := (18, [some (pvI 4), some (pvI 5), some (pvI 1), some (pvI (0 + 1))], [pvI 5, pvI 1], M)) rfl ⟨trivial, trivial, trivial⟩ ?_
  refine pw_icn hT (c := 1 = 5) rfl rfl (fun c11_ => ?_) (fun c11_ => absurd c11_ (by decide))
  refine pw_blk hT 1 (S' := (24, [some (pvI 4), some (pvI 5), some (pvI 1), some (pvI (0 + 1))], [pvI 1], M)) rfl ⟨trivial, trivial⟩ ?_
  refine pw_callT hT (as := [pvI 1]) (lo1 := [some (pvI 1)]) (d1 := d) (rest := []) rfl rfl rfl rfl rfl (fun h => absurd h (by decide)) (Nat.zero_le _) rfl rfl rfl (se_X3_above_1 M hok d) ?_
  refine pw_eqI (show ((pvstab 1040).getD (Int32.toNatClampNeg 1) 0) = 0 from by decide) ?_
  show PW 132 d (27, [some (pvI 4), some (pvI 5), some (pvI 1), some (pvI (0 + 1))], [pvI 0], M) _
  refine pw_blk hT 3 (S' := (4, [some (pvI 4), some (pvI 5), some (pvI 0), some (pvI ((0 + 1) + 1))], [], M)) rfl ⟨trivial, trivial, trivial, trivial⟩ ?_
  refine pw_blk hT 3 (S' := (9, [some (pvI 4), some (pvI 5), some (pvI 0), some (pvI ((0 + 1) + 1))], [pvI (Int32.ofNat (pvstab 1040).length), pvI ((0 + 1) + 1)], M)) rfl ⟨trivial, trivial, (by decide), trivial⟩ ?_
  refine pw_ic hT (c := (Int32.ofNat (pvstab 1040).length) ≤ ((0 + 1) + 1)) rfl rfl (fun c17_ => absurd c17_ (by decide)) (fun c17_ => ?_)
  refine pw_blk hT 1 (S' := (13, [some (pvI 4), some (pvI 5), some (pvI 0), some (pvI ((0 + 1) + 1))], [pvI 0], M)) rfl ⟨trivial, trivial⟩ ?_
  refine pw_if hT (c := 0 < 0) rfl rfl (fun c18_ => absurd c18_ (by decide)) (fun c18_ => ?_)
  refine pw_blk hT 2 (S' := (18, [some (pvI 4), some (pvI 5), some (pvI 0), some (pvI ((0 + 1) + 1))], [pvI 5, pvI 0], M)) rfl ⟨trivial, trivial, trivial⟩ ?_
  refine pw_icn hT (c := 0 = 5) rfl rfl (fun c19_ => ?_) (fun c19_ => absurd c19_ (by decide))
  refine pw_blk hT 1 (S' := (24, [some (pvI 4), some (pvI 5), some (pvI 0), some (pvI ((0 + 1) + 1))], [pvI 0], M)) rfl ⟨trivial, trivial⟩ ?_
  refine pw_callT hT (as := [pvI 0]) (lo1 := [some (pvI 0)]) (d1 := d) (rest := []) rfl rfl rfl rfl rfl (fun h => absurd h (by decide)) (Nat.zero_le _) rfl rfl rfl (se_X3_above_0 M hok d) ?_
  refine pw_eqI (show ((pvstab 1040).getD (Int32.toNatClampNeg 0) 0) = (-1) from by decide) ?_
  show PW 132 d (27, [some (pvI 4), some (pvI 5), some (pvI 0), some (pvI ((0 + 1) + 1))], [pvI (-1)], M) _
  refine pw_blk hT 3 (S' := (4, [some (pvI 4), some (pvI 5), some (pvI (-1)), some (pvI (((0 + 1) + 1) + 1))], [], M)) rfl ⟨trivial, trivial, trivial, trivial⟩ ?_
  refine pw_blk hT 3 (S' := (9, [some (pvI 4), some (pvI 5), some (pvI (-1)), some (pvI (((0 + 1) + 1) + 1))], [pvI (Int32.ofNat (pvstab 1040).length), pvI (((0 + 1) + 1) + 1)], M)) rfl ⟨trivial, trivial, (by decide), trivial⟩ ?_
  refine pw_ic hT (c := (Int32.ofNat (pvstab 1040).length) ≤ (((0 + 1) + 1) + 1)) rfl rfl (fun c25_ => absurd c25_ (by decide)) (fun c25_ => ?_)
  refine pw_blk hT 1 (S' := (13, [some (pvI 4), some (pvI 5), some (pvI (-1)), some (pvI (((0 + 1) + 1) + 1))], [pvI (-1)], M)) rfl ⟨trivial, trivial⟩ ?_
  refine pw_if hT (c := (-1) < 0) rfl rfl (fun c26_ => ?_) (fun c26_ => absurd (by decide) c26_)
  refine pw_blk hT 1 (S' := (35, [some (pvI 4), some (pvI 5), some (pvI (-1)), some (pvI (((0 + 1) + 1) + 1))], [pvI 0], M)) rfl ⟨trivial, trivial⟩ ?_
  exact pw_ret hT rfl (r := some (pvI 0)) (M' := M) ⟨Or.inl rfl, rfl, rfl⟩ ⟨rfl, rfl⟩
set_option maxHeartbeats 4000000 in
set_option maxRecDepth 10000 in
theorem se_X3_isUnder_4_6 (M : pvM) (hok : pvOk M) (d : Nat) : PW 132 d (0, [some (pvI 4), some (pvI 6), none, none], [], M) (fun r X => r = some (pvI (0)) ∧ X = M) := by
  have hT : pvdom 132 = pvD_132 := rfl
  refine pw_blk hT 4 (S' := (4, [some (pvI 4), some (pvI 6), some (pvI 4), some (pvI 0)], [], M)) rfl ⟨trivial, trivial, trivial, trivial, trivial⟩ ?_
  refine pw_blk hT 3 (S' := (9, [some (pvI 4), some (pvI 6), some (pvI 4), some (pvI 0)], [pvI (Int32.ofNat (pvstab 1040).length), pvI 0], M)) rfl ⟨trivial, trivial, (by decide), trivial⟩ ?_
  refine pw_ic hT (c := (Int32.ofNat (pvstab 1040).length) ≤ 0) rfl rfl (fun c1_ => absurd c1_ (by decide)) (fun c1_ => ?_)
  refine pw_blk hT 1 (S' := (13, [some (pvI 4), some (pvI 6), some (pvI 4), some (pvI 0)], [pvI 4], M)) rfl ⟨trivial, trivial⟩ ?_
  refine pw_if hT (c := 4 < 0) rfl rfl (fun c2_ => absurd c2_ (by decide)) (fun c2_ => ?_)
  refine pw_blk hT 2 (S' := (18, [some (pvI 4), some (pvI 6), some (pvI 4), some (pvI 0)], [pvI 6, pvI 4], M)) rfl ⟨trivial, trivial, trivial⟩ ?_
  refine pw_icn hT (c := 4 = 6) rfl rfl (fun c3_ => ?_) (fun c3_ => absurd c3_ (by decide))
  refine pw_blk hT 1 (S' := (24, [some (pvI 4), some (pvI 6), some (pvI 4), some (pvI 0)], [pvI 4], M)) rfl ⟨trivial, trivial⟩ ?_
  refine pw_callT hT (as := [pvI 4]) (lo1 := [some (pvI 4)]) (d1 := d) (rest := []) rfl rfl rfl rfl rfl (fun h => absurd h (by decide)) (Nat.zero_le _) rfl rfl rfl (se_X3_above_4 M hok d) ?_
  refine pw_eqI (show ((pvstab 1040).getD (Int32.toNatClampNeg 4) 0) = 1 from by decide) ?_
  show PW 132 d (27, [some (pvI 4), some (pvI 6), some (pvI 4), some (pvI 0)], [pvI 1], M) _
  refine pw_blk hT 3 (S' := (4, [some (pvI 4), some (pvI 6), some (pvI 1), some (pvI (0 + 1))], [], M)) rfl ⟨trivial, trivial, trivial, trivial⟩ ?_
  refine pw_blk hT 3 (S' := (9, [some (pvI 4), some (pvI 6), some (pvI 1), some (pvI (0 + 1))], [pvI (Int32.ofNat (pvstab 1040).length), pvI (0 + 1)], M)) rfl ⟨trivial, trivial, (by decide), trivial⟩ ?_
  refine pw_ic hT (c := (Int32.ofNat (pvstab 1040).length) ≤ (0 + 1)) rfl rfl (fun c9_ => absurd c9_ (by decide)) (fun c9_ => ?_)
  refine pw_blk hT 1 (S' := (13, [some (pvI 4), some (pvI 6), some (pvI 1), some (pvI (0 + 1))], [pvI 1], M)) rfl ⟨trivial, trivial⟩ ?_
  refine pw_if hT (c := 1 < 0) rfl rfl (fun c10_ => absurd c10_ (by decide)) (fun c10_ => ?_)
  refine pw_blk hT 2 (S' := (18, [some (pvI 4), some (pvI 6), some (pvI 1), some (pvI (0 + 1))], [pvI 6, pvI 1], M)) rfl ⟨trivial, trivial, trivial⟩ ?_
  refine pw_icn hT (c := 1 = 6) rfl rfl (fun c11_ => ?_) (fun c11_ => absurd c11_ (by decide))
  refine pw_blk hT 1 (S' := (24, [some (pvI 4), some (pvI 6), some (pvI 1), some (pvI (0 + 1))], [pvI 1], M)) rfl ⟨trivial, trivial⟩ ?_
  refine pw_callT hT (as := [pvI 1]) (lo1 := [some (pvI 1)]) (d1 := d) (rest := []) rfl rfl rfl rfl rfl (fun h => absurd h (by decide)) (Nat.zero_le _) rfl rfl rfl (se_X3_above_1 M hok d) ?_
  refine pw_eqI (show ((pvstab 1040).getD (Int32.toNatClampNeg 1) 0) = 0 from by decide) ?_
  show PW 132 d (27, [some (pvI 4), some (pvI 6), some (pvI 1), some (pvI (0 + 1))], [pvI 0], M) _
  refine pw_blk hT 3 (S' := (4, [some (pvI 4), some (pvI 6), some (pvI 0), some (pvI ((0 + 1) + 1))], [], M)) rfl ⟨trivial, trivial, trivial, trivial⟩ ?_
  refine pw_blk hT 3 (S' := (9, [some (pvI 4), some (pvI 6), some (pvI 0), some (pvI ((0 + 1) + 1))], [pvI (Int32.ofNat (pvstab 1040).length), pvI ((0 + 1) + 1)], M)) rfl ⟨trivial, trivial, (by decide), trivial⟩ ?_
  refine pw_ic hT (c := (Int32.ofNat (pvstab 1040).length) ≤ ((0 + 1) + 1)) rfl rfl (fun c17_ => absurd c17_ (by decide)) (fun c17_ => ?_)
  refine pw_blk hT 1 (S' := (13, [some (pvI 4), some (pvI 6), some (pvI 0), some (pvI ((0 + 1) + 1))], [pvI 0], M)) rfl ⟨trivial, trivial⟩ ?_
  refine pw_if hT (c := 0 < 0) rfl rfl (fun c18_ => absurd c18_ (by decide)) (fun c18_ => ?_)
  refine pw_blk hT 2 (S' := (18, [some (pvI 4), some (pvI 6), some (pvI 0), some (pvI ((0 + 1) + 1))], [pvI 6, pvI 0], M)) rfl ⟨trivial, trivial, trivial⟩ ?_
  refine pw_icn hT (c := 0 = 6) rfl rfl (fun c19_ => ?_) (fun c19_ => absurd c19_ (by decide))
  refine pw_blk hT 1 (S' := (24, [some (pvI 4), some (pvI 6), some (pvI 0), some (pvI ((0 + 1) + 1))], [pvI 0], M)) rfl ⟨trivial, trivial⟩ ?_
  refine pw_callT hT (as := [pvI 0]) (lo1 := [some (pvI 0)]) (d1 := d) (rest := []) rfl rfl rfl rfl rfl (fun h => absurd h (by decide)) (Nat.zero_le _) rfl rfl rfl (se_X3_above_0 M hok d) ?_
  refine pw_eqI (show ((pvstab 1040).getD (Int32.toNatClampNeg 0) 0) = (-1) from by decide) ?_
  show PW 132 d (27, [some (pvI 4), some (pvI 6), some (pvI 0), some (pvI ((0 + 1) + 1))], [pvI (-1)], M) _
  refine pw_blk hT 3 (S' := (4, [some (pvI 4), some (pvI 6), some (pvI (-1)), some (pvI (((0 + 1) + 1) + 1))], [], M)) rfl ⟨trivial, trivial, trivial, trivial⟩ ?_
  refine pw_blk hT 3 (S' := (9, [some (pvI 4), some (pvI 6), some (pvI (-1)), some (pvI (((0 + 1) + 1) + 1))], [pvI (Int32.ofNat (pvstab 1040).length), pvI (((0 + 1) + 1) + 1)], M)) rfl ⟨trivial, trivial, (by decide), trivial⟩ ?_
  refine pw_ic hT (c := (Int32.ofNat (pvstab 1040).length) ≤ (((0 + 1) + 1) + 1)) rfl rfl (fun c25_ => absurd c25_ (by decide)) (fun c25_ => ?_)
  refine pw_blk hT 1 (S' := (13, [some (pvI 4), some (pvI 6), some (pvI (-1)), some (pvI (((0 + 1) + 1) + 1))], [pvI (-1)], M)) rfl ⟨trivial, trivial⟩ ?_
  refine pw_if hT (c := (-1) < 0) rfl rfl (fun c26_ => ?_) (fun c26_ => absurd (by decide) c26_)
  refine pw_blk hT 1 (S' := (35, [some (pvI 4), some (pvI 6), some (pvI (-1)), some (pvI (((0 + 1) + 1) + 1))], [pvI 0], M)) rfl ⟨trivial, trivial⟩ ?_
  exact pw_ret hT rfl (r := some (pvI 0)) (M' := M) ⟨Or.inl rfl, rfl, rfl⟩ ⟨rfl, rfl⟩
set_option maxHeartbeats 4000000 in
set_option maxRecDepth 10000 in
theorem se_X3_isUnder_5_0 (M : pvM) (hok : pvOk M) (d : Nat) : PW 132 d (0, [some (pvI 5), some (pvI 0), none, none], [], M) (fun r X => r = some (pvI (1)) ∧ X = M) := by
  have hT : pvdom 132 = pvD_132 := rfl
  refine pw_blk hT 4 (S' := (4, [some (pvI 5), some (pvI 0), some (pvI 5), some (pvI 0)], [], M)) rfl ⟨trivial, trivial, trivial, trivial, trivial⟩ ?_
  refine pw_blk hT 3 (S' := (9, [some (pvI 5), some (pvI 0), some (pvI 5), some (pvI 0)], [pvI (Int32.ofNat (pvstab 1040).length), pvI 0], M)) rfl ⟨trivial, trivial, (by decide), trivial⟩ ?_
  refine pw_ic hT (c := (Int32.ofNat (pvstab 1040).length) ≤ 0) rfl rfl (fun c1_ => absurd c1_ (by decide)) (fun c1_ => ?_)
  refine pw_blk hT 1 (S' := (13, [some (pvI 5), some (pvI 0), some (pvI 5), some (pvI 0)], [pvI 5], M)) rfl ⟨trivial, trivial⟩ ?_
  refine pw_if hT (c := 5 < 0) rfl rfl (fun c2_ => absurd c2_ (by decide)) (fun c2_ => ?_)
  refine pw_blk hT 2 (S' := (18, [some (pvI 5), some (pvI 0), some (pvI 5), some (pvI 0)], [pvI 0, pvI 5], M)) rfl ⟨trivial, trivial, trivial⟩ ?_
  refine pw_icn hT (c := 5 = 0) rfl rfl (fun c3_ => ?_) (fun c3_ => absurd c3_ (by decide))
  refine pw_blk hT 1 (S' := (24, [some (pvI 5), some (pvI 0), some (pvI 5), some (pvI 0)], [pvI 5], M)) rfl ⟨trivial, trivial⟩ ?_
  refine pw_callT hT (as := [pvI 5]) (lo1 := [some (pvI 5)]) (d1 := d) (rest := []) rfl rfl rfl rfl rfl (fun h => absurd h (by decide)) (Nat.zero_le _) rfl rfl rfl (se_X3_above_5 M hok d) ?_
  refine pw_eqI (show ((pvstab 1040).getD (Int32.toNatClampNeg 5) 0) = 2 from by decide) ?_
  show PW 132 d (27, [some (pvI 5), some (pvI 0), some (pvI 5), some (pvI 0)], [pvI 2], M) _
  refine pw_blk hT 3 (S' := (4, [some (pvI 5), some (pvI 0), some (pvI 2), some (pvI (0 + 1))], [], M)) rfl ⟨trivial, trivial, trivial, trivial⟩ ?_
  refine pw_blk hT 3 (S' := (9, [some (pvI 5), some (pvI 0), some (pvI 2), some (pvI (0 + 1))], [pvI (Int32.ofNat (pvstab 1040).length), pvI (0 + 1)], M)) rfl ⟨trivial, trivial, (by decide), trivial⟩ ?_
  refine pw_ic hT (c := (Int32.ofNat (pvstab 1040).length) ≤ (0 + 1)) rfl rfl (fun c9_ => absurd c9_ (by decide)) (fun c9_ => ?_)
  refine pw_blk hT 1 (S' := (13, [some (pvI 5), some (pvI 0), some (pvI 2), some (pvI (0 + 1))], [pvI 2], M)) rfl ⟨trivial, trivial⟩ ?_
  refine pw_if hT (c := 2 < 0) rfl rfl (fun c10_ => absurd c10_ (by decide)) (fun c10_ => ?_)
  refine pw_blk hT 2 (S' := (18, [some (pvI 5), some (pvI 0), some (pvI 2), some (pvI (0 + 1))], [pvI 0, pvI 2], M)) rfl ⟨trivial, trivial, trivial⟩ ?_
  refine pw_icn hT (c := 2 = 0) rfl rfl (fun c11_ => ?_) (fun c11_ => absurd c11_ (by decide))
  refine pw_blk hT 1 (S' := (24, [some (pvI 5), some (pvI 0), some (pvI 2), some (pvI (0 + 1))], [pvI 2], M)) rfl ⟨trivial, trivial⟩ ?_
  refine pw_callT hT (as := [pvI 2]) (lo1 := [some (pvI 2)]) (d1 := d) (rest := []) rfl rfl rfl rfl rfl (fun h => absurd h (by decide)) (Nat.zero_le _) rfl rfl rfl (se_X3_above_2 M hok d) ?_
  refine pw_eqI (show ((pvstab 1040).getD (Int32.toNatClampNeg 2) 0) = 0 from by decide) ?_
  show PW 132 d (27, [some (pvI 5), some (pvI 0), some (pvI 2), some (pvI (0 + 1))], [pvI 0], M) _
  refine pw_blk hT 3 (S' := (4, [some (pvI 5), some (pvI 0), some (pvI 0), some (pvI ((0 + 1) + 1))], [], M)) rfl ⟨trivial, trivial, trivial, trivial⟩ ?_
  refine pw_blk hT 3 (S' := (9, [some (pvI 5), some (pvI 0), some (pvI 0), some (pvI ((0 + 1) + 1))], [pvI (Int32.ofNat (pvstab 1040).length), pvI ((0 + 1) + 1)], M)) rfl ⟨trivial, trivial, (by decide), trivial⟩ ?_
  refine pw_ic hT (c := (Int32.ofNat (pvstab 1040).length) ≤ ((0 + 1) + 1)) rfl rfl (fun c17_ => absurd c17_ (by decide)) (fun c17_ => ?_)
  refine pw_blk hT 1 (S' := (13, [some (pvI 5), some (pvI 0), some (pvI 0), some (pvI ((0 + 1) + 1))], [pvI 0], M)) rfl ⟨trivial, trivial⟩ ?_
  refine pw_if hT (c := 0 < 0) rfl rfl (fun c18_ => absurd c18_ (by decide)) (fun c18_ => ?_)
  refine pw_blk hT 2 (S' := (18, [some (pvI 5), some (pvI 0), some (pvI 0), some (pvI ((0 + 1) + 1))], [pvI 0, pvI 0], M)) rfl ⟨trivial, trivial, trivial⟩ ?_
  refine pw_icn hT (c := 0 = 0) rfl rfl (fun c19_ => absurd (by decide) c19_) (fun c19_ => ?_)
  refine pw_blk hT 1 (S' := (22, [some (pvI 5), some (pvI 0), some (pvI 0), some (pvI ((0 + 1) + 1))], [pvI 1], M)) rfl ⟨trivial, trivial⟩ ?_
  exact pw_ret hT rfl (r := some (pvI 1)) (M' := M) ⟨Or.inr rfl, rfl, rfl⟩ ⟨rfl, rfl⟩
set_option maxHeartbeats 4000000 in
set_option maxRecDepth 10000 in
theorem se_X3_isUnder_5_1 (M : pvM) (hok : pvOk M) (d : Nat) : PW 132 d (0, [some (pvI 5), some (pvI 1), none, none], [], M) (fun r X => r = some (pvI (0)) ∧ X = M) := by
  have hT : pvdom 132 = pvD_132 := rfl
  refine pw_blk hT 4 (S' := (4, [some (pvI 5), some (pvI 1), some (pvI 5), some (pvI 0)], [], M)) rfl ⟨trivial, trivial, trivial, trivial, trivial⟩ ?_
  refine pw_blk hT 3 (S' := (9, [some (pvI 5), some (pvI 1), some (pvI 5), some (pvI 0)], [pvI (Int32.ofNat (pvstab 1040).length), pvI 0], M)) rfl ⟨trivial, trivial, (by decide), trivial⟩ ?_
  refine pw_ic hT (c := (Int32.ofNat (pvstab 1040).length) ≤ 0) rfl rfl (fun c1_ => absurd c1_ (by decide)) (fun c1_ => ?_)
  refine pw_blk hT 1 (S' := (13, [some (pvI 5), some (pvI 1), some (pvI 5), some (pvI 0)], [pvI 5], M)) rfl ⟨trivial, trivial⟩ ?_
  refine pw_if hT (c := 5 < 0) rfl rfl (fun c2_ => absurd c2_ (by decide)) (fun c2_ => ?_)
  refine pw_blk hT 2 (S' := (18, [some (pvI 5), some (pvI 1), some (pvI 5), some (pvI 0)], [pvI 1, pvI 5], M)) rfl ⟨trivial, trivial, trivial⟩ ?_
  refine pw_icn hT (c := 5 = 1) rfl rfl (fun c3_ => ?_) (fun c3_ => absurd c3_ (by decide))
  refine pw_blk hT 1 (S' := (24, [some (pvI 5), some (pvI 1), some (pvI 5), some (pvI 0)], [pvI 5], M)) rfl ⟨trivial, trivial⟩ ?_
  refine pw_callT hT (as := [pvI 5]) (lo1 := [some (pvI 5)]) (d1 := d) (rest := []) rfl rfl rfl rfl rfl (fun h => absurd h (by decide)) (Nat.zero_le _) rfl rfl rfl (se_X3_above_5 M hok d) ?_
  refine pw_eqI (show ((pvstab 1040).getD (Int32.toNatClampNeg 5) 0) = 2 from by decide) ?_
  show PW 132 d (27, [some (pvI 5), some (pvI 1), some (pvI 5), some (pvI 0)], [pvI 2], M) _
  refine pw_blk hT 3 (S' := (4, [some (pvI 5), some (pvI 1), some (pvI 2), some (pvI (0 + 1))], [], M)) rfl ⟨trivial, trivial, trivial, trivial⟩ ?_
  refine pw_blk hT 3 (S' := (9, [some (pvI 5), some (pvI 1), some (pvI 2), some (pvI (0 + 1))], [pvI (Int32.ofNat (pvstab 1040).length), pvI (0 + 1)], M)) rfl ⟨trivial, trivial, (by decide), trivial⟩ ?_
  refine pw_ic hT (c := (Int32.ofNat (pvstab 1040).length) ≤ (0 + 1)) rfl rfl (fun c9_ => absurd c9_ (by decide)) (fun c9_ => ?_)
  refine pw_blk hT 1 (S' := (13, [some (pvI 5), some (pvI 1), some (pvI 2), some (pvI (0 + 1))], [pvI 2], M)) rfl ⟨trivial, trivial⟩ ?_
  refine pw_if hT (c := 2 < 0) rfl rfl (fun c10_ => absurd c10_ (by decide)) (fun c10_ => ?_)
  refine pw_blk hT 2 (S' := (18, [some (pvI 5), some (pvI 1), some (pvI 2), some (pvI (0 + 1))], [pvI 1, pvI 2], M)) rfl ⟨trivial, trivial, trivial⟩ ?_
  refine pw_icn hT (c := 2 = 1) rfl rfl (fun c11_ => ?_) (fun c11_ => absurd c11_ (by decide))
  refine pw_blk hT 1 (S' := (24, [some (pvI 5), some (pvI 1), some (pvI 2), some (pvI (0 + 1))], [pvI 2], M)) rfl ⟨trivial, trivial⟩ ?_
  refine pw_callT hT (as := [pvI 2]) (lo1 := [some (pvI 2)]) (d1 := d) (rest := []) rfl rfl rfl rfl rfl (fun h => absurd h (by decide)) (Nat.zero_le _) rfl rfl rfl (se_X3_above_2 M hok d) ?_
  refine pw_eqI (show ((pvstab 1040).getD (Int32.toNatClampNeg 2) 0) = 0 from by decide) ?_
  show PW 132 d (27, [some (pvI 5), some (pvI 1), some (pvI 2), some (pvI (0 + 1))], [pvI 0], M) _
  refine pw_blk hT 3 (S' := (4, [some (pvI 5), some (pvI 1), some (pvI 0), some (pvI ((0 + 1) + 1))], [], M)) rfl ⟨trivial, trivial, trivial, trivial⟩ ?_
  refine pw_blk hT 3 (S' := (9, [some (pvI 5), some (pvI 1), some (pvI 0), some (pvI ((0 + 1) + 1))], [pvI (Int32.ofNat (pvstab 1040).length), pvI ((0 + 1) + 1)], M)) rfl ⟨trivial, trivial, (by decide), trivial⟩ ?_
  refine pw_ic hT (c := (Int32.ofNat (pvstab 1040).length) ≤ ((0 + 1) + 1)) rfl rfl (fun c17_ => absurd c17_ (by decide)) (fun c17_ => ?_)
  refine pw_blk hT 1 (S' := (13, [some (pvI 5), some (pvI 1), some (pvI 0), some (pvI ((0 + 1) + 1))], [pvI 0], M)) rfl ⟨trivial, trivial⟩ ?_
  refine pw_if hT (c := 0 < 0) rfl rfl (fun c18_ => absurd c18_ (by decide)) (fun c18_ => ?_)
  refine pw_blk hT 2 (S' := (18, [some (pvI 5), some (pvI 1), some (pvI 0), some (pvI ((0 + 1) + 1))], [pvI 1, pvI 0], M)) rfl ⟨trivial, trivial, trivial⟩ ?_
  refine pw_icn hT (c := 0 = 1) rfl rfl (fun c19_ => ?_) (fun c19_ => absurd c19_ (by decide))
  refine pw_blk hT 1 (S' := (24, [some (pvI 5), some (pvI 1), some (pvI 0), some (pvI ((0 + 1) + 1))], [pvI 0], M)) rfl ⟨trivial, trivial⟩ ?_
  refine pw_callT hT (as := [pvI 0]) (lo1 := [some (pvI 0)]) (d1 := d) (rest := []) rfl rfl rfl rfl rfl (fun h => absurd h (by decide)) (Nat.zero_le _) rfl rfl rfl (se_X3_above_0 M hok d) ?_
  refine pw_eqI (show ((pvstab 1040).getD (Int32.toNatClampNeg 0) 0) = (-1) from by decide) ?_
  show PW 132 d (27, [some (pvI 5), some (pvI 1), some (pvI 0), some (pvI ((0 + 1) + 1))], [pvI (-1)], M) _
  refine pw_blk hT 3 (S' := (4, [some (pvI 5), some (pvI 1), some (pvI (-1)), some (pvI (((0 + 1) + 1) + 1))], [], M)) rfl ⟨trivial, trivial, trivial, trivial⟩ ?_
  refine pw_blk hT 3 (S' := (9, [some (pvI 5), some (pvI 1), some (pvI (-1)), some (pvI (((0 + 1) + 1) + 1))], [pvI (Int32.ofNat (pvstab 1040).length), pvI (((0 + 1) + 1) + 1)], M)) rfl ⟨trivial, trivial, (by decide), trivial⟩ ?_
  refine pw_ic hT (c := (Int32.ofNat (pvstab 1040).length) ≤ (((0 + 1) + 1) + 1)) rfl rfl (fun c25_ => absurd c25_ (by decide)) (fun c25_ => ?_)
  refine pw_blk hT 1 (S' := (13, [some (pvI 5), some (pvI 1), some (pvI (-1)), some (pvI (((0 + 1) + 1) + 1))], [pvI (-1)], M)) rfl ⟨trivial, trivial⟩ ?_
  refine pw_if hT (c := (-1) < 0) rfl rfl (fun c26_ => ?_) (fun c26_ => absurd (by decide) c26_)
  refine pw_blk hT 1 (S' := (35, [some (pvI 5), some (pvI 1), some (pvI (-1)), some (pvI (((0 + 1) + 1) + 1))], [pvI 0], M)) rfl ⟨trivial, trivial⟩ ?_
  exact pw_ret hT rfl (r := some (pvI 0)) (M' := M) ⟨Or.inl rfl, rfl, rfl⟩ ⟨rfl, rfl⟩
set_option maxHeartbeats 4000000 in
set_option maxRecDepth 10000 in
theorem se_X3_isUnder_5_2 (M : pvM) (hok : pvOk M) (d : Nat) : PW 132 d (0, [some (pvI 5), some (pvI 2), none, none], [], M) (fun r X => r = some (pvI (1)) ∧ X = M) := by
  have hT : pvdom 132 = pvD_132 := rfl
  refine pw_blk hT 4 (S' := (4, [some (pvI 5), some (pvI 2), some (pvI 5), some (pvI 0)], [], M)) rfl ⟨trivial, trivial, trivial, trivial, trivial⟩ ?_
  refine pw_blk hT 3 (S' := (9, [some (pvI 5), some (pvI 2), some (pvI 5), some (pvI 0)], [pvI (Int32.ofNat (pvstab 1040).length), pvI 0], M)) rfl ⟨trivial, trivial, (by decide), trivial⟩ ?_
  refine pw_ic hT (c := (Int32.ofNat (pvstab 1040).length) ≤ 0) rfl rfl (fun c1_ => absurd c1_ (by decide)) (fun c1_ => ?_)
  refine pw_blk hT 1 (S' := (13, [some (pvI 5), some (pvI 2), some (pvI 5), some (pvI 0)], [pvI 5], M)) rfl ⟨trivial, trivial⟩ ?_
  refine pw_if hT (c := 5 < 0) rfl rfl (fun c2_ => absurd c2_ (by decide)) (fun c2_ => ?_)
  refine pw_blk hT 2 (S' := (18, [some (pvI 5), some (pvI 2), some (pvI 5), some (pvI 0)], [pvI 2, pvI 5], M)) rfl ⟨trivial, trivial, trivial⟩ ?_
  refine pw_icn hT (c := 5 = 2) rfl rfl (fun c3_ => ?_) (fun c3_ => absurd c3_ (by decide))
  refine pw_blk hT 1 (S' := (24, [some (pvI 5), some (pvI 2), some (pvI 5), some (pvI 0)], [pvI 5], M)) rfl ⟨trivial, trivial⟩ ?_
  refine pw_callT hT (as := [pvI 5]) (lo1 := [some (pvI 5)]) (d1 := d) (rest := []) rfl rfl rfl rfl rfl (fun h => absurd h (by decide)) (Nat.zero_le _) rfl rfl rfl (se_X3_above_5 M hok d) ?_
  refine pw_eqI (show ((pvstab 1040).getD (Int32.toNatClampNeg 5) 0) = 2 from by decide) ?_
  show PW 132 d (27, [some (pvI 5), some (pvI 2), some (pvI 5), some (pvI 0)], [pvI 2], M) _
  refine pw_blk hT 3 (S' := (4, [some (pvI 5), some (pvI 2), some (pvI 2), some (pvI (0 + 1))], [], M)) rfl ⟨trivial, trivial, trivial, trivial⟩ ?_
  refine pw_blk hT 3 (S' := (9, [some (pvI 5), some (pvI 2), some (pvI 2), some (pvI (0 + 1))], [pvI (Int32.ofNat (pvstab 1040).length), pvI (0 + 1)], M)) rfl ⟨trivial, trivial, (by decide), trivial⟩ ?_
  refine pw_ic hT (c := (Int32.ofNat (pvstab 1040).length) ≤ (0 + 1)) rfl rfl (fun c9_ => absurd c9_ (by decide)) (fun c9_ => ?_)
  refine pw_blk hT 1 (S' := (13, [some (pvI 5), some (pvI 2), some (pvI 2), some (pvI (0 + 1))], [pvI 2], M)) rfl ⟨trivial, trivial⟩ ?_
  refine pw_if hT (c := 2 < 0) rfl rfl (fun c10_ => absurd c10_ (by decide)) (fun c10_ => ?_)
  refine pw_blk hT 2 (S' := (18, [some (pvI 5), some (pvI 2), some (pvI 2), some (pvI (0 + 1))], [pvI 2, pvI 2], M)) rfl ⟨trivial, trivial, trivial⟩ ?_
  refine pw_icn hT (c := 2 = 2) rfl rfl (fun c11_ => absurd (by decide) c11_) (fun c11_ => ?_)
  refine pw_blk hT 1 (S' := (22, [some (pvI 5), some (pvI 2), some (pvI 2), some (pvI (0 + 1))], [pvI 1], M)) rfl ⟨trivial, trivial⟩ ?_
  exact pw_ret hT rfl (r := some (pvI 1)) (M' := M) ⟨Or.inr rfl, rfl, rfl⟩ ⟨rfl, rfl⟩
set_option maxHeartbeats 4000000 in
set_option maxRecDepth 10000 in
theorem se_X3_isUnder_5_3 (M : pvM) (hok : pvOk M) (d : Nat) : PW 132 d (0, [some (pvI 5), some (pvI 3), none, none], [], M) (fun r X => r = some (pvI (0)) ∧ X = M) := by
  have hT : pvdom 132 = pvD_132 := rfl
  refine pw_blk hT 4 (S' := (4, [some (pvI 5), some (pvI 3), some (pvI 5), some (pvI 0)], [], M)) rfl ⟨trivial, trivial, trivial, trivial, trivial⟩ ?_
  refine pw_blk hT 3 (S' := (9, [some (pvI 5), some (pvI 3), some (pvI 5), some (pvI 0)], [pvI (Int32.ofNat (pvstab 1040).length), pvI 0], M)) rfl ⟨trivial, trivial, (by decide), trivial⟩ ?_
  refine pw_ic hT (c := (Int32.ofNat (pvstab 1040).length) ≤ 0) rfl rfl (fun c1_ => absurd c1_ (by decide)) (fun c1_ => ?_)
  refine pw_blk hT 1 (S' := (13, [some (pvI 5), some (pvI 3), some (pvI 5), some (pvI 0)], [pvI 5], M)) rfl ⟨trivial, trivial⟩ ?_
  refine pw_if hT (c := 5 < 0) rfl rfl (fun c2_ => absurd c2_ (by decide)) (fun c2_ => ?_)
  refine pw_blk hT 2 (S' := (18, [some (pvI 5), some (pvI 3), some (pvI 5), some (pvI 0)], [pvI 3, pvI 5], M)) rfl ⟨trivial, trivial, trivial⟩ ?_
  refine pw_icn hT (c := 5 = 3) rfl rfl (fun c3_ => ?_) (fun c3_ => absurd c3_ (by decide))
  refine pw_blk hT 1 (S' := (24, [some (pvI 5), some (pvI 3), some (pvI 5), some (pvI 0)], [pvI 5], M)) rfl ⟨trivial, trivial⟩ ?_
  refine pw_callT hT (as := [pvI 5]) (lo1 := [some (pvI 5)]) (d1 := d) (rest := []) rfl rfl rfl rfl rfl (fun h => absurd h (by decide)) (Nat.zero_le _) rfl rfl rfl (se_X3_above_5 M hok d) ?_
  refine pw_eqI (show ((pvstab 1040).getD (Int32.toNatClampNeg 5) 0) = 2 from by decide) ?_
  show PW 132 d (27, [some (pvI 5), some (pvI 3), some (pvI 5), some (pvI 0)], [pvI 2], M) _
  refine pw_blk hT 3 (S' := (4, [some (pvI 5), some (pvI 3), some (pvI 2), some (pvI (0 + 1))], [], M)) rfl ⟨trivial, trivial, trivial, trivial⟩ ?_
  refine pw_blk hT 3 (S' := (9, [some (pvI 5), some (pvI 3), some (pvI 2), some (pvI (0 + 1))], [pvI (Int32.ofNat (pvstab 1040).length), pvI (0 + 1)], M)) rfl ⟨trivial, trivial, (by decide), trivial⟩ ?_
  refine pw_ic hT (c := (Int32.ofNat (pvstab 1040).length) ≤ (0 + 1)) rfl rfl (fun c9_ => absurd c9_ (by decide)) (fun c9_ => ?_)
  refine pw_blk hT 1 (S' := (13, [some (pvI 5), some (pvI 3), some (pvI 2), some (pvI (0 + 1))], [pvI 2], M)) rfl ⟨trivial, trivial⟩ ?_
  refine pw_if hT (c := 2 < 0) rfl rfl (fun c10_ => absurd c10_ (by decide)) (fun c10_ => ?_)
  refine pw_blk hT 2 (S' := (18, [some (pvI 5), some (pvI 3), some (pvI 2), some (pvI (0 + 1))], [pvI 3, pvI 2], M)) rfl ⟨trivial, trivial, trivial⟩ ?_
  refine pw_icn hT (c := 2 = 3) rfl rfl (fun c11_ => ?_) (fun c11_ => absurd c11_ (by decide))
  refine pw_blk hT 1 (S' := (24, [some (pvI 5), some (pvI 3), some (pvI 2), some (pvI (0 + 1))], [pvI 2], M)) rfl ⟨trivial, trivial⟩ ?_
  refine pw_callT hT (as := [pvI 2]) (lo1 := [some (pvI 2)]) (d1 := d) (rest := []) rfl rfl rfl rfl rfl (fun h => absurd h (by decide)) (Nat.zero_le _) rfl rfl rfl (se_X3_above_2 M hok d) ?_
  refine pw_eqI (show ((pvstab 1040).getD (Int32.toNatClampNeg 2) 0) = 0 from by decide) ?_
  show PW 132 d (27, [some (pvI 5), some (pvI 3), some (pvI 2), some (pvI (0 + 1))], [pvI 0], M) _
  refine pw_blk hT 3 (S' := (4, [some (pvI 5), some (pvI 3), some (pvI 0), some (pvI ((0 + 1) + 1))], [], M)) rfl ⟨trivial, trivial, trivial, trivial⟩ ?_
  refine pw_blk hT 3 (S' := (9, [some (pvI 5), some (pvI 3), some (pvI 0), some (pvI ((0 + 1) + 1))], [pvI (Int32.ofNat (pvstab 1040).length), pvI ((0 + 1) + 1)], M)) rfl ⟨trivial, trivial, (by decide), trivial⟩ ?_
  refine pw_ic hT (c := (Int32.ofNat (pvstab 1040).length) ≤ ((0 + 1) + 1)) rfl rfl (fun c17_ => absurd c17_ (by decide)) (fun c17_ => ?_)
  refine pw_blk hT 1 (S' := (13, [some (pvI 5), some (pvI 3), some (pvI 0), some (pvI ((0 + 1) + 1))], [pvI 0], M)) rfl ⟨trivial, trivial⟩ ?_
  refine pw_if hT (c := 0 < 0) rfl rfl (fun c18_ => absurd c18_ (by decide)) (fun c18_ => ?_)
  refine pw_blk hT 2 (S' := (18, [some (pvI 5), some (pvI 3), some (pvI 0), some (pvI ((0 + 1) + 1))], [pvI 3, pvI 0], M)) rfl ⟨trivial, trivial, trivial⟩ ?_
  refine pw_icn hT (c := 0 = 3) rfl rfl (fun c19_ => ?_) (fun c19_ => absurd c19_ (by decide))
  refine pw_blk hT 1 (S' := (24, [some (pvI 5), some (pvI 3), some (pvI 0), some (pvI ((0 + 1) + 1))], [pvI 0], M)) rfl ⟨trivial, trivial⟩ ?_
  refine pw_callT hT (as := [pvI 0]) (lo1 := [some (pvI 0)]) (d1 := d) (rest := []) rfl rfl rfl rfl rfl (fun h => absurd h (by decide)) (Nat.zero_le _) rfl rfl rfl (se_X3_above_0 M hok d) ?_
  refine pw_eqI (show ((pvstab 1040).getD (Int32.toNatClampNeg 0) 0) = (-1) from by decide) ?_
  show PW 132 d (27, [some (pvI 5), some (pvI 3), some (pvI 0), some (pvI ((0 + 1) + 1))], [pvI (-1)], M) _
  refine pw_blk hT 3 (S' := (4, [some (pvI 5), some (pvI 3), some (pvI (-1)), some (pvI (((0 + 1) + 1) + 1))], [], M)) rfl ⟨trivial, trivial, trivial, trivial⟩ ?_
  refine pw_blk hT 3 (S' := (9, [some (pvI 5), some (pvI 3), some (pvI (-1)), some (pvI (((0 + 1) + 1) + 1))], [pvI (Int32.ofNat (pvstab 1040).length), pvI (((0 + 1) + 1) + 1)], M)) rfl ⟨trivial, trivial, (by decide), trivial⟩ ?_
  refine pw_ic hT (c := (Int32.ofNat (pvstab 1040).length) ≤ (((0 + 1) + 1) + 1)) rfl rfl (fun c25_ => absurd c25_ (by decide)) (fun c25_ => ?_)
  refine pw_blk hT 1 (S' := (13, [some (pvI 5), some (pvI 3), some (pvI (-1)), some (pvI (((0 + 1) + 1) + 1))], [pvI (-1)], M)) rfl ⟨trivial, trivial⟩ ?_
  refine pw_if hT (c := (-1) < 0) rfl rfl (fun c26_ => ?_) (fun c26_ => absurd (by decide) c26_)
  refine pw_blk hT 1 (S' := (35, [some (pvI 5), some (pvI 3), some (pvI (-1)), some (pvI (((0 + 1) + 1) + 1))], [pvI 0], M)) rfl ⟨trivial, trivial⟩ ?_
  exact pw_ret hT rfl (r := some (pvI 0)) (M' := M) ⟨Or.inl rfl, rfl, rfl⟩ ⟨rfl, rfl⟩
set_option maxHeartbeats 4000000 in
set_option maxRecDepth 10000 in
theorem se_X3_isUnder_5_4 (M : pvM) (hok : pvOk M) (d : Nat) : PW 132 d (0, [some (pvI 5), some (pvI 4), none, none], [], M) (fun r X => r = some (pvI (0)) ∧ X = M) := by
  have hT : pvdom 132 = pvD_132 := rfl
  refine pw_blk hT 4 (S' := (4, [some (pvI 5), some (pvI 4), some (pvI 5), some (pvI 0)], [], M)) rfl ⟨trivial, trivial, trivial, trivial, trivial⟩ ?_
  refine pw_blk hT 3 (S' := (9, [some (pvI 5), some (pvI 4), some (pvI 5), some (pvI 0)], [pvI (Int32.ofNat (pvstab 1040).length), pvI 0], M)) rfl ⟨trivial, trivial, (by decide), trivial⟩ ?_
  refine pw_ic hT (c := (Int32.ofNat (pvstab 1040).length) ≤ 0) rfl rfl (fun c1_ => absurd c1_ (by decide)) (fun c1_ => ?_)
  refine pw_blk hT 1 (S' := (13, [some (pvI 5), some (pvI 4), some (pvI 5), some (pvI 0)], [pvI 5], M)) rfl ⟨trivial, trivial⟩ ?_
  refine pw_if hT (c := 5 < 0) rfl rfl (fun c2_ => absurd c2_ (by decide)) (fun c2_ => ?_)
  refine pw_blk hT 2 (S' := (18, [some (pvI 5), some (pvI 4), some (pvI 5), some (pvI 0)], [pvI 4, pvI 5], M)) rfl ⟨trivial, trivial, trivial⟩ ?_
  refine pw_icn hT (c := 5 = 4) rfl rfl (fun c3_ => ?_) (fun c3_ => absurd c3_ (by decide))
  refine pw_blk hT 1 (S' := (24, [some (pvI 5), some (pvI 4), some (pvI 5), some (pvI 0)], [pvI 5], M)) rfl ⟨trivial, trivial⟩ ?_
  refine pw_callT hT (as := [pvI 5]) (lo1 := [some (pvI 5)]) (d1 := d) (rest := []) rfl rfl rfl rfl rfl (fun h => absurd h (by decide)) (Nat.zero_le _) rfl rfl rfl (se_X3_above_5 M hok d) ?_
  refine pw_eqI (show ((pvstab 1040).getD (Int32.toNatClampNeg 5) 0) = 2 from by decide) ?_
  show PW 132 d (27, [some (pvI 5), some (pvI 4), some (pvI 5), some (pvI 0)], [pvI 2], M) _
  refine pw_blk hT 3 (S' := (4, [some (pvI 5), some (pvI 4), some (pvI 2), some (pvI (0 + 1))], [], M)) rfl ⟨trivial, trivial, trivial, trivial⟩ ?_
  refine pw_blk hT 3 (S' := (9, [some (pvI 5), some (pvI 4), some (pvI 2), some (pvI (0 + 1))], [pvI (Int32.ofNat (pvstab 1040).length), pvI (0 + 1)], M)) rfl ⟨trivial, trivial, (by decide), trivial⟩ ?_
  refine pw_ic hT (c := (Int32.ofNat (pvstab 1040).length) ≤ (0 + 1)) rfl rfl (fun c9_ => absurd c9_ (by decide)) (fun c9_ => ?_)
  refine pw_blk hT 1 (S' := (13, [some (pvI 5), some (pvI 4), some (pvI 2), some (pvI (0 + 1))], [pvI 2], M)) rfl ⟨trivial, trivial⟩ ?_
  refine pw_if hT (c := 2 < 0) rfl rfl (fun c10_ => absurd c10_ (by decide)) (fun c10_ => ?_)
  refine pw_blk hT 2 (S' := (18, [some (pvI 5), some (pvI 4), some (pvI 2), some (pvI (0 + 1))], [pvI 4, pvI 2], M)) rfl ⟨trivial, trivial, trivial⟩ ?_
  refine pw_icn hT (c := 2 = 4) rfl rfl (fun c11_ => ?_) (fun c11_ => absurd c11_ (by decide))
  refine pw_blk hT 1 (S' := (24, [some (pvI 5), some (pvI 4), some (pvI 2), some (pvI (0 + 1))], [pvI 2], M)) rfl ⟨trivial, trivial⟩ ?_
  refine pw_callT hT (as := [pvI 2]) (lo1 := [some (pvI 2)]) (d1 := d) (rest := []) rfl rfl rfl rfl rfl (fun h => absurd h (by decide)) (Nat.zero_le _) rfl rfl rfl (se_X3_above_2 M hok d) ?_
  refine pw_eqI (show ((pvstab 1040).getD (Int32.toNatClampNeg 2) 0) = 0 from by decide) ?_
  show PW 132 d (27, [some (pvI 5), some (pvI 4), some (pvI 2), some (pvI (0 + 1))], [pvI 0], M) _
  refine pw_blk hT 3 (S' := (4, [some (pvI 5), some (pvI 4), some (pvI 0), some (pvI ((0 + 1) + 1))], [], M)) rfl ⟨trivial, trivial, trivial, trivial⟩ ?_
  refine pw_blk hT 3 (S' := (9, [some (pvI 5), some (pvI 4), some (pvI 0), some (pvI ((0 + 1) + 1))], [pvI (Int32.ofNat (pvstab 1040).length), pvI ((0 + 1) + 1)], M)) rfl ⟨trivial, trivial, (by decide), trivial⟩ ?_
  refine pw_ic hT (c := (Int32.ofNat (pvstab 1040).length) ≤ ((0 + 1) + 1)) rfl rfl (fun c17_ => absurd c17_ (by decide)) (fun c17_ => ?_)
  refine pw_blk hT 1 (S' := (13, [some (pvI 5), some (pvI 4), some (pvI 0), some (pvI ((0 + 1) + 1))], [pvI 0], M)) rfl ⟨trivial, trivial⟩ ?_
  refine pw_if hT (c := 0 < 0) rfl rfl (fun c18_ => absurd c18_ (by decide)) (fun c18_ => ?_)
  refine pw_blk hT 2 (S' := (18, [some (pvI 5), some (pvI 4), some (pvI 0), some (pvI ((0 + 1) + 1))], [pvI 4, pvI 0], M)) rfl ⟨trivial, trivial, trivial⟩ ?_
  refine pw_icn hT (c := 0 = 4) rfl rfl (fun c19_ => ?_) (fun c19_ => absurd c19_ (by decide))
  refine pw_blk hT 1 (S' := (24, [some (pvI 5), some (pvI 4), some (pvI 0), some (pvI ((0 + 1) + 1))], [pvI 0], M)) rfl ⟨trivial, trivial⟩ ?_
  refine pw_callT hT (as := [pvI 0]) (lo1 := [some (pvI 0)]) (d1 := d) (rest := []) rfl rfl rfl rfl rfl (fun h => absurd h (by decide)) (Nat.zero_le _) rfl rfl rfl (se_X3_above_0 M hok d) ?_
  refine pw_eqI (show ((pvstab 1040).getD (Int32.toNatClampNeg 0) 0) = (-1) from by decide) ?_
  show PW 132 d (27, [some (pvI 5), some (pvI 4), some (pvI 0), some (pvI ((0 + 1) + 1))], [pvI (-1)], M) _
  refine pw_blk hT 3 (S' := (4, [some (pvI 5), some (pvI 4), some (pvI (-1)), some (pvI (((0 + 1) + 1) + 1))], [], M)) rfl ⟨trivial, trivial, trivial, trivial⟩ ?_
  refine pw_blk hT 3 (S' := (9, [some (pvI 5), some (pvI 4), some (pvI (-1)), some (pvI (((0 + 1) + 1) + 1))], [pvI (Int32.ofNat (pvstab 1040).length), pvI (((0 + 1) + 1) + 1)], M)) rfl ⟨trivial, trivial, (by decide), trivial⟩ ?_
  refine pw_ic hT (c := (Int32.ofNat (pvstab 1040).length) ≤ (((0 + 1) + 1) + 1)) rfl rfl (fun c25_ => absurd c25_ (by decide)) (fun c25_ => ?_)
  refine pw_blk hT 1 (S' := (13, [some (pvI 5), some (pvI 4), some (pvI (-1)), some (pvI (((0 + 1) + 1) + 1))], [pvI (-1)], M)) rfl ⟨trivial, trivial⟩ ?_
  refine pw_if hT (c := (-1) < 0) rfl rfl (fun c26_ => ?_) (fun c26_ => absurd (by decide) c26_)
  refine pw_blk hT 1 (S' := (35, [some (pvI 5), some (pvI 4), some (pvI (-1)), some (pvI (((0 + 1) + 1) + 1))], [pvI 0], M)) rfl ⟨trivial, trivial⟩ ?_
  exact pw_ret hT rfl (r := some (pvI 0)) (M' := M) ⟨Or.inl rfl, rfl, rfl⟩ ⟨rfl, rfl⟩
set_option maxHeartbeats 4000000 in
set_option maxRecDepth 10000 in
theorem se_X3_isUnder_5_5 (M : pvM) (hok : pvOk M) (d : Nat) : PW 132 d (0, [some (pvI 5), some (pvI 5), none, none], [], M) (fun r X => r = some (pvI (1)) ∧ X = M) := by
  have hT : pvdom 132 = pvD_132 := rfl
  refine pw_blk hT 4 (S' := (4, [some (pvI 5), some (pvI 5), some (pvI 5), some (pvI 0)], [], M)) rfl ⟨trivial, trivial, trivial, trivial, trivial⟩ ?_
  refine pw_blk hT 3 (S' := (9, [some (pvI 5), some (pvI 5), some (pvI 5), some (pvI 0)], [pvI (Int32.ofNat (pvstab 1040).length), pvI 0], M)) rfl ⟨trivial, trivial, (by decide), trivial⟩ ?_
  refine pw_ic hT (c := (Int32.ofNat (pvstab 1040).length) ≤ 0) rfl rfl (fun c1_ => absurd c1_ (by decide)) (fun c1_ => ?_)
  refine pw_blk hT 1 (S' := (13, [some (pvI 5), some (pvI 5), some (pvI 5), some (pvI 0)], [pvI 5], M)) rfl ⟨trivial, trivial⟩ ?_
  refine pw_if hT (c := 5 < 0) rfl rfl (fun c2_ => absurd c2_ (by decide)) (fun c2_ => ?_)
  refine pw_blk hT 2 (S' := (18, [some (pvI 5), some (pvI 5), some (pvI 5), some (pvI 0)], [pvI 5, pvI 5], M)) rfl ⟨trivial, trivial, trivial⟩ ?_
  refine pw_icn hT (c := 5 = 5) rfl rfl (fun c3_ => absurd (by decide) c3_) (fun c3_ => ?_)
  refine pw_blk hT 1 (S' := (22, [some (pvI 5), some (pvI 5), some (pvI 5), some (pvI 0)], [pvI 1], M)) rfl ⟨trivial, trivial⟩ ?_
  exact pw_ret hT rfl (r := some (pvI 1)) (M' := M) ⟨Or.inr rfl, rfl, rfl⟩ ⟨rfl, rfl⟩
set_option maxHeartbeats 4000000 in
set_option maxRecDepth 10000 in
theorem se_X3_isUnder_5_6 (M : pvM) (hok : pvOk M) (d : Nat) : PW 132 d (0, [some (pvI 5), some (pvI 6), none, none], [], M) (fun r X => r = some (pvI (0)) ∧ X = M) := by
  have hT : pvdom 132 = pvD_132 := rfl
  refine pw_blk hT 4 (S' := (4, [some (pvI 5), some (pvI 6), some (pvI 5), some (pvI 0)], [], M)) rfl ⟨trivial, trivial, trivial, trivial, trivial⟩ ?_
  refine pw_blk hT 3 (S' := (9, [some (pvI 5), some (pvI 6), some (pvI 5), some (pvI 0)], [pvI (Int32.ofNat (pvstab 1040).length), pvI 0], M)) rfl ⟨trivial, trivial, (by decide), trivial⟩ ?_
  refine pw_ic hT (c := (Int32.ofNat (pvstab 1040).length) ≤ 0) rfl rfl (fun c1_ => absurd c1_ (by decide)) (fun c1_ => ?_)
  refine pw_blk hT 1 (S' := (13, [some (pvI 5), some (pvI 6), some (pvI 5), some (pvI 0)], [pvI 5], M)) rfl ⟨trivial, trivial⟩ ?_
  refine pw_if hT (c := 5 < 0) rfl rfl (fun c2_ => absurd c2_ (by decide)) (fun c2_ => ?_)
  refine pw_blk hT 2 (S' := (18, [some (pvI 5), some (pvI 6), some (pvI 5), some (pvI 0)], [pvI 6, pvI 5], M)) rfl ⟨trivial, trivial, trivial⟩ ?_
  refine pw_icn hT (c := 5 = 6) rfl rfl (fun c3_ => ?_) (fun c3_ => absurd c3_ (by decide))
  refine pw_blk hT 1 (S' := (24, [some (pvI 5), some (pvI 6), some (pvI 5), some (pvI 0)], [pvI 5], M)) rfl ⟨trivial, trivial⟩ ?_
  refine pw_callT hT (as := [pvI 5]) (lo1 := [some (pvI 5)]) (d1 := d) (rest := []) rfl rfl rfl rfl rfl (fun h => absurd h (by decide)) (Nat.zero_le _) rfl rfl rfl (se_X3_above_5 M hok d) ?_
  refine pw_eqI (show ((pvstab 1040).getD (Int32.toNatClampNeg 5) 0) = 2 from by decide) ?_
  show PW 132 d (27, [some (pvI 5), some (pvI 6), some (pvI 5), some (pvI 0)], [pvI 2], M) _
  refine pw_blk hT 3 (S' := (4, [some (pvI 5), some (pvI 6), some (pvI 2), some (pvI (0 + 1))], [], M)) rfl ⟨trivial, trivial, trivial, trivial⟩ ?_
  refine pw_blk hT 3 (S' := (9, [some (pvI 5), some (pvI 6), some (pvI 2), some (pvI (0 + 1))], [pvI (Int32.ofNat (pvstab 1040).length), pvI (0 + 1)], M)) rfl ⟨trivial, trivial, (by decide), trivial⟩ ?_
  refine pw_ic hT (c := (Int32.ofNat (pvstab 1040).length) ≤ (0 + 1)) rfl rfl (fun c9_ => absurd c9_ (by decide)) (fun c9_ => ?_)
  refine pw_blk hT 1 (S' := (13, [some (pvI 5), some (pvI 6), some (pvI 2), some (pvI (0 + 1))], [pvI 2], M)) rfl ⟨trivial, trivial⟩ ?_
  refine pw_if hT (c := 2 < 0) rfl rfl (fun c10_ => absurd c10_ (by decide)) (fun c10_ => ?_)
  refine pw_blk hT 2 (S' := (18, [some (pvI 5), some (pvI 6), some (pvI 2), some (pvI (0 + 1))], [pvI 6, pvI 2], M)) rfl ⟨trivial, trivial, trivial⟩ ?_
  refine pw_icn hT (c := 2 = 6) rfl rfl (fun c11_ => ?_) (fun c11_ => absurd c11_ (by decide))
  refine pw_blk hT 1 (S' := (24, [some (pvI 5), some (pvI 6), some (pvI 2), some (pvI (0 + 1))], [pvI 2], M)) rfl ⟨trivial, trivial⟩ ?_
  refine pw_callT hT (as := [pvI 2]) (lo1 := [some (pvI 2)]) (d1 := d) (rest := []) rfl rfl rfl rfl rfl (fun h => absurd h (by decide)) (Nat.zero_le _) rfl rfl rfl (se_X3_above_2 M hok d) ?_
  refine pw_eqI (show ((pvstab 1040).getD (Int32.toNatClampNeg 2) 0) = 0 from by decide) ?_
  show PW 132 d (27, [some (pvI 5), some (pvI 6), some (pvI 2), some (pvI (0 + 1))], [pvI 0], M) _
  refine pw_blk hT 3 (S' := (4, [some (pvI 5), some (pvI 6), some (pvI 0), some (pvI ((0 + 1) + 1))], [], M)) rfl ⟨trivial, trivial, trivial, trivial⟩ ?_
  refine pw_blk hT 3 (S' := (9, [some (pvI 5), some (pvI 6), some (pvI 0), some (pvI ((0 + 1) + 1))], [pvI (Int32.ofNat (pvstab 1040).length), pvI ((0 + 1) + 1)], M)) rfl ⟨trivial, trivial, (by decide), trivial⟩ ?_
  refine pw_ic hT (c := (Int32.ofNat (pvstab 1040).length) ≤ ((0 + 1) + 1)) rfl rfl (fun c17_ => absurd c17_ (by decide)) (fun c17_ => ?_)
  refine pw_blk hT 1 (S' := (13, [some (pvI 5), some (pvI 6), some (pvI 0), some (pvI ((0 + 1) + 1))], [pvI 0], M)) rfl ⟨trivial, trivial⟩ ?_
  refine pw_if hT (c := 0 < 0) rfl rfl (fun c18_ => absurd c18_ (by decide)) (fun c18_ => ?_)
  refine pw_blk hT 2 (S' := (18, [some (pvI 5), some (pvI 6), some (pvI 0), some (pvI ((0 + 1) + 1))], [pvI 6, pvI 0], M)) rfl ⟨trivial, trivial, trivial⟩ ?_
  refine pw_icn hT (c := 0 = 6) rfl rfl (fun c19_ => ?_) (fun c19_ => absurd c19_ (by decide))
  refine pw_blk hT 1 (S' := (24, [some (pvI 5), some (pvI 6), some (pvI 0), some (pvI ((0 + 1) + 1))], [pvI 0], M)) rfl ⟨trivial, trivial⟩ ?_
  refine pw_callT hT (as := [pvI 0]) (lo1 := [some (pvI 0)]) (d1 := d) (rest := []) rfl rfl rfl rfl rfl (fun h => absurd h (by decide)) (Nat.zero_le _) rfl rfl rfl (se_X3_above_0 M hok d) ?_
  refine pw_eqI (show ((pvstab 1040).getD (Int32.toNatClampNeg 0) 0) = (-1) from by decide) ?_
  show PW 132 d (27, [some (pvI 5), some (pvI 6), some (pvI 0), some (pvI ((0 + 1) + 1))], [pvI (-1)], M) _
  refine pw_blk hT 3 (S' := (4, [some (pvI 5), some (pvI 6), some (pvI (-1)), some (pvI (((0 + 1) + 1) + 1))], [], M)) rfl ⟨trivial, trivial, trivial, trivial⟩ ?_
  refine pw_blk hT 3 (S' := (9, [some (pvI 5), some (pvI 6), some (pvI (-1)), some (pvI (((0 + 1) + 1) + 1))], [pvI (Int32.ofNat (pvstab 1040).length), pvI (((0 + 1) + 1) + 1)], M)) rfl ⟨trivial, trivial, (by decide), trivial⟩ ?_
  refine pw_ic hT (c := (Int32.ofNat (pvstab 1040).length) ≤ (((0 + 1) + 1) + 1)) rfl rfl (fun c25_ => absurd c25_ (by decide)) (fun c25_ => ?_)
  refine pw_blk hT 1 (S' := (13, [some (pvI 5), some (pvI 6), some (pvI (-1)), some (pvI (((0 + 1) + 1) + 1))], [pvI (-1)], M)) rfl ⟨trivial, trivial⟩ ?_
  refine pw_if hT (c := (-1) < 0) rfl rfl (fun c26_ => ?_) (fun c26_ => absurd (by decide) c26_)
  refine pw_blk hT 1 (S' := (35, [some (pvI 5), some (pvI 6), some (pvI (-1)), some (pvI (((0 + 1) + 1) + 1))], [pvI 0], M)) rfl ⟨trivial, trivial⟩ ?_
  exact pw_ret hT rfl (r := some (pvI 0)) (M' := M) ⟨Or.inl rfl, rfl, rfl⟩ ⟨rfl, rfl⟩
