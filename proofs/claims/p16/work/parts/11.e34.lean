set_option maxHeartbeats 4000000 in
set_option maxRecDepth 10000 in
theorem se_X3_isUnder_6_0 (M : pvM) (hok : pvOk M) (d : Nat) : PW 132 d (0, [some (pvI 6), some (pvI 0), none, none], [], M) (fun r X => r = some (pvI (1)) ∧ X = M) := by
  have hT : pvdom 132 = pvD_132 := rfl
  refine pw_blk hT 4 (S' := (4, [some (pvI 6), some (pvI 0), some (pvI 6), some (pvI 0)], [], M)) rfl ⟨trivial, trivial, trivial, trivial, trivial⟩ ?_
  refine pw_blk hT 3 (S' := (9, [some (pvI 6), some (pvI 0), some (pvI 6), some (pvI 0)], [pvI (Int32.ofNat (pvstab 1040).length), pvI 0], M)) rfl ⟨trivial, trivial, (by decide), trivial⟩ ?_
  refine pw_ic hT (c := (Int32.ofNat (pvstab 1040).length) ≤ 0) rfl rfl (fun c1_ => absurd c1_ (by decide)) (fun c1_ => ?_)
  refine pw_blk hT 1 (S' := (13, [some (pvI 6), some (pvI 0), some (pvI 6), some (pvI 0)], [pvI 6], M)) rfl ⟨trivial, trivial⟩ ?_
  refine pw_if hT (c := 6 < 0) rfl rfl (fun c2_ => absurd c2_ (by decide)) (fun c2_ => ?_)
  refine pw_blk hT 2 (S' := (18, [some (pvI 6), some (pvI 0), some (pvI 6), some (pvI 0)], [pvI 0, pvI 6], M)) rfl ⟨trivial, trivial, trivial⟩ ?_
  refine pw_icn hT (c := 6 = 0) rfl rfl (fun c3_ => ?_) (fun c3_ => absurd c3_ (by decide))
  refine pw_blk hT 1 (S' := (24, [some (pvI 6), some (pvI 0), some (pvI 6), some (pvI 0)], [pvI 6], M)) rfl ⟨trivial, trivial⟩ ?_
  refine pw_callT hT (as := [pvI 6]) (lo1 := [some (pvI 6)]) (d1 := d) (rest := []) rfl rfl rfl rfl rfl (fun h => absurd h (by decide)) (Nat.zero_le _) rfl rfl rfl (se_X3_above_6 M hok d) ?_
  refine pw_eqI (show ((pvstab 1040).getD (Int32.toNatClampNeg 6) 0) = 3 from by decide) ?_
  show PW 132 d (27, [some (pvI 6), some (pvI 0), some (pvI 6), some (pvI 0)], [pvI 3], M) _
  refine pw_blk hT 3 (S' := (4, [some (pvI 6), some (pvI 0), some (pvI 3), some (pvI (0 + 1))], [], M)) rfl ⟨trivial, trivial, trivial, trivial⟩ ?_
  refine pw_blk hT 3 (S' := (9, [some (pvI 6), some (pvI 0), some (pvI 3), some (pvI (0 + 1))], [pvI (Int32.ofNat (pvstab 1040).length), pvI (0 + 1)], M)) rfl ⟨trivial, trivial, (by decide), trivial⟩ ?_
  refine pw_ic hT (c := (Int32.ofNat (pvstab 1040).length) ≤ (0 + 1)) rfl rfl (fun c9_ => absurd c9_ (by decide)) (fun c9_ => ?_)
  refine pw_blk hT 1 (S' := (13, [some (pvI 6), some (pvI 0), some (pvI 3), some (pvI (0 + 1))], [pvI 3], M)) rfl ⟨trivial, trivial⟩ ?_
  refine pw_if hT (c := 3 < 0) rfl rfl (fun c10_ => absurd c10_ (by decide)) (fun c10_ => ?_)
  refine pw_blk hT 2 (S' := (18, [some (pvI 6), some (pvI 0), some (pvI 3), some (pvI (0 + 1))], [pvI 0, pvI 3], M)) rfl ⟨trivial, trivial, trivial⟩ ?_
  refine pw_icn hT (c := 3 = 0) rfl rfl (fun c11_ => ?_) (fun c11_ => absurd c11_ (by decide))
  refine pw_blk hT 1 (S' := (24, [some (pvI 6), some (pvI 0), some (pvI 3), some (pvI (0 + 1))], [pvI 3], M)) rfl ⟨trivial, trivial⟩ ?_
  refine pw_callT hT (as := [pvI 3]) (lo1 := [some (pvI 3)]) (d1 := d) (rest := []) rfl rfl rfl rfl rfl (fun h => absurd h (by decide)) (Nat.zero_le _) rfl rfl rfl (se_X3_above_3 M hok d) ?_
  refine pw_eqI (show ((pvstab 1040).getD (Int32.toNatClampNeg 3) 0) = 0 from by decide) ?_
  show PW 132 d (27, [some (pvI 6), some (pvI 0), some (pvI 3), some (pvI (0 + 1))], [pvI 0], M) _
  refine pw_blk hT 3 (S' := (4, [some (pvI 6), some (pvI 0), some (pvI 0), some (pvI ((0 + 1) + 1))], [], M)) rfl ⟨trivial, trivial, trivial, trivial⟩ ?_
  refine pw_blk hT 3 (S' := (9, [some (pvI 6), some (pvI 0), some (pvI 0), some (pvI ((0 + 1) + 1))], [pvI (Int32.ofNat (pvstab 1040).length), pvI ((0 + 1) + 1)], M)) rfl ⟨trivial, trivial, (by decide), trivial⟩ ?_
  refine pw_ic hT (c := (Int32.ofNat (pvstab 1040).length) ≤ ((0 + 1) + 1)) rfl rfl (fun c17_ => absurd c17_ (by decide)) (fun c17_ => ?_)
  refine pw_blk hT 1 (S' := (13, [some (pvI 6), some (pvI 0), some (pvI 0), some (pvI ((0 + 1) + 1))], [pvI 0], M)) rfl ⟨trivial, trivial⟩ ?_
  refine pw_if hT (c := 0 < 0) rfl rfl (fun c18_ => absurd c18_ (by decide)) (fun c18_ => ?_)
  refine pw_blk hT 2 (S' := (18, [some (pvI 6), some (pvI 0), some (pvI 0), some (pvI ((0 + 1) + 1))], [pvI 0, pvI 0], M)) rfl ⟨trivial, trivial, trivial⟩ ?_
  refine pw_icn hT (c := 0 = 0) rfl rfl (fun c19_ => absurd (by decide) c19_) (fun c19_ => ?_)
  refine pw_blk hT 1 (S' := (22, [some (pvI 6), some (pvI 0), some (pvI 0), some (pvI ((0 + 1) + 1))], [pvI 1], M)) rfl ⟨trivial, trivial⟩ ?_
  exact pw_ret hT rfl (r := some (pvI 1)) (M' := M) ⟨Or.inr rfl, rfl, rfl⟩ ⟨rfl, rfl⟩
set_option maxHeartbeats 4000000 in
set_option maxRecDepth 10000 in
theorem se_X3_isUnder_6_1 (M : pvM) (hok : pvOk M) (d : Nat) : PW 132 d (0, [some (pvI 6), some (pvI 1), none, none], [], M) (fun r X => r = some (pvI (0)) ∧ X = M) := by
  have hT : pvdom 132 = pvD_132 := rfl
  refine pw_blk hT 4 (S' := (4, [some (pvI 6), some (pvI 1), some (pvI 6), some (pvI 0)], [], M)) rfl ⟨trivial, trivial, trivial, trivial, trivial⟩ ?_
  refine pw_blk hT 3 (S' := (9, [some (pvI 6), some (pvI 1), some (pvI 6), some (pvI 0)], [pvI (Int32.ofNat (pvstab 1040).length), pvI 0], M)) rfl ⟨trivial, trivial, (by decide), trivial⟩ ?_
  refine pw_ic hT (c := (Int32.ofNat (pvstab 1040).length) ≤ 0) rfl rfl (fun c1_ => absurd c1_ (by decide)) (fun c1_ => ?_)
  refine pw_blk hT 1 (S' := (13, [some (pvI 6), some (pvI 1), some (pvI 6), some (pvI 0)], [pvI 6], M)) rfl ⟨trivial, trivial⟩ ?_
  refine pw_if hT (c := 6 < 0) rfl rfl (fun c2_ => absurd c2_ (by decide)) (fun c2_ => ?_)
  refine pw_blk hT 2 (S' := (18, [some (pvI 6), some (pvI 1), some (pvI 6), some (pvI 0)], [pvI 1, pvI 6], M)) rfl ⟨trivial, trivial, trivial⟩ ?_
  refine pw_icn hT (c := 6 = 1) rfl rfl (fun c3_ => ?_) (fun c3_ => absurd c3_ (by decide))
  refine pw_blk hT 1 (S' := (24, [some (pvI 6), some (pvI 1), some (pvI 6), some (pvI 0)], [pvI 6], M)) rfl ⟨trivial, trivial⟩ ?_
  refine pw_callT hT (as := [pvI 6]) (lo1 := [some (pvI 6)]) (d1 := d) (rest := []) rfl rfl rfl rfl rfl (fun h => absurd h (by decide)) (Nat.zero_le _) rfl rfl rfl (se_X3_above_6 M hok d) ?_
  refine pw_eqI (show ((pvstab 1040).getD (Int32.toNatClampNeg 6) 0) = 3 from by decide) ?_
  show PW 132 d (27, [some (pvI 6), some (pvI 1), some (pvI 6), some (pvI 0)], [pvI 3], M) _
  refine pw_blk hT 3 (S' := (4, [some (pvI 6), some (pvI 1), some (pvI 3), some (pvI (0 + 1))], [], M)) rfl ⟨trivial, trivial, trivial, trivial⟩ ?_
  refine pw_blk hT 3 (S' := (9, [some (pvI 6), some (pvI 1), some (pvI 3), some (pvI (0 + 1))], [pvI (Int32.ofNat (pvstab 1040).length), pvI (0 + 1)], M)) rfl ⟨trivial, trivial, (by decide), trivial⟩ ?_
  refine pw_ic hT (c := (Int32.ofNat (pvstab 1040).length) ≤ (0 + 1)) rfl rfl (fun c9_ => absurd c9_ (by decide)) (fun c9_ => ?_)
  refine pw_blk hT 1 (S' := (13, [some (pvI 6), some (pvI 1), some (pvI 3), some (pvI (0 + 1))], [pvI 3], M)) rfl ⟨trivial, trivial⟩ ?_
  refine pw_if hT (c := 3 < 0) rfl rfl (fun c10_ => absurd c10_ (by decide)) (fun c10_ => ?_)
  refine pw_blk hT 2 (S' := (18, [some (pvI 6), some (pvI 1), some (pvI 3), some (pvI (0 + 1))], [pvI 1, pvI 3], M)) rfl ⟨trivial, trivial, trivial⟩ ?_
  refine pw_icn hT (c := 3 = 1) rfl rfl (fun c11_ => ?_) (fun c11_ => absurd c11_ (by decide))
  refine pw_blk hT 1 (S' := (24, [some (pvI 6), some (pvI 1), some (pvI 3), some (pvI (0 + 1))], [pvI 3], M)) rfl ⟨trivial, trivial⟩ ?_
  refine pw_callT hT (as := [pvI 3]) (lo1 := [some (pvI 3)]) (d1 := d) (rest := []) rfl rfl rfl rfl rfl (fun h => absurd h (by decide)) (Nat.zero_le _) rfl rfl rfl (se_X3_above_3 M hok d) ?_
  refine pw_eqI (show ((pvstab 1040).getD (Int32.toNatClampNeg 3) 0) = 0 from by decide) ?_
  show PW 132 d (27, [some (pvI 6), some (pvI 1), some (pvI 3), some (pvI (0 + 1))], [pvI 0], M) _
  refine pw_blk hT 3 (S' := (4, [some (pvI 6), some (pvI 1), some (pvI 0), some (pvI ((0 + 1) + 1))], [], M)) rfl ⟨trivial, trivial, trivial, trivial⟩ ?_
  refine pw_blk hT 3 (S' := (9, [some (pvI 6), some (pvI 1), some (pvI 0), some (pvI ((0 + 1) + 1))], [pvI (Int32.ofNat (pvstab 1040).length), pvI ((0 + 1) + 1)], M)) rfl ⟨trivial, trivial, (by decide), trivial⟩ ?_
  refine pw_ic hT (c := (Int32.ofNat (pvstab 1040).length) ≤ ((0 + 1) + 1)) rfl rfl (fun c17_ => absurd c17_ (by decide)) (fun c17_ => ?_)
  refine pw_blk hT 1 (S' := (13, [some (pvI 6), some (pvI 1), some (pvI 0), some (pvI ((0 + 1) + 1))], [pvI 0], M)) rfl ⟨trivial, trivial⟩ ?_
  refine pw_if hT (c := 0 < 0) rfl rfl (fun c18_ => absurd c18_ (by decide)) (fun c18_ => ?_)
  refine pw_blk hT 2 (S' := (18, [some (pvI 6), some (pvI 1), some (pvI 0), some (pvI ((0 + 1) + 1))], [pvI 1, pvI 0], M)) rfl ⟨trivial, trivial, trivial⟩ ?_
  refine pw_icn hT (c := 0 = 1) rfl rfl (fun c19_ => ?_) (fun c19_ => absurd c19_ (by decide))
  refine pw_blk hT 1 (S' := (24, [some (pvI 6), some (pvI 1), some (pvI 0), some (pvI ((0 + 1) + 1))], [pvI 0], M)) rfl ⟨trivial, trivial⟩ ?_
  refine pw_callT hT (as := [pvI 0]) (lo1 := [some (pvI 0)]) (d1 := d) (rest := []) rfl rfl rfl rfl rfl (fun h => absurd h (by decide)) (Nat.zero_le _) rfl rfl rfl (se_X3_above_0 M hok d) ?_
  refine pw_eqI (show ((pvstab 1040).getD (Int32.toNatClampNeg 0) 0) = (-1) from by decide) ?_
  show PW 132 d (27, [some (pvI 6), some (pvI 1), some (pvI 0), some (pvI ((0 + 1) + 1))], [pvI (-1)], M) _
  refine pw_blk hT 3 (S' := (4, [some (pvI 6), some (pvI 1), some (pvI (-1)), some (pvI (((0 + 1) + 1) + 1))], [], M)) rfl ⟨trivial, trivial, trivial, trivial⟩ ?_
  refine pw_blk hT 3 (S' := (9, [some (pvI 6), some (pvI 1), some (pvI (-1)), some (pvI (((0 + 1) + 1) + 1))], [pvI (Int32.ofNat (pvstab 1040).length), pvI (((0 + 1) + 1) + 1)], M)) rfl ⟨trivial, trivial, (by decide), trivial⟩ ?_
  refine pw_ic hT (c := (Int32.ofNat (pvstab 1040).length) ≤ (((0 + 1) + 1) + 1)) rfl rfl (fun c25_ => absurd c25_ (by decide)) (fun c25_ => ?_)
  refine pw_blk hT 1 (S' := (13, [some (pvI 6), some (pvI 1), some (pvI (-1)), some (pvI (((0 + 1) + 1) + 1))], [pvI (-1)], M)) rfl ⟨trivial, trivial⟩ ?_
  refine pw_if hT (c := (-1) < 0) rfl rfl (fun c26_ => ?_) (fun c26_ => absurd (by decide) c26_)
  refine pw_blk hT 1 (S' := (35, [some (pvI 6), some (pvI 1), some (pvI (-1)), some (pvI (((0 + 1) + 1) + 1))], [pvI 0], M)) rfl ⟨trivial, trivial⟩ ?_
  exact pw_ret hT rfl (r := some (pvI 0)) (M' := M) ⟨Or.inl rfl, rfl, rfl⟩ ⟨rfl, rfl⟩
set_option maxHeartbeats 4000000 in
set_option maxRecDepth 10000 in
theorem se_X3_isUnder_6_2 (M : pvM) (hok : pvOk M) (d : Nat) : PW 132 d (0, [some (pvI 6), some (pvI 2), none, none], [], M) (fun r X => r = some (pvI (0)) ∧ X = M) := by
  have hT : pvdom 132 = pvD_132 := rfl
  refine pw_blk hT 4 (S' := (4, [some (pvI 6), some (pvI 2), some (pvI 6), some (pvI 0)], [], M)) rfl ⟨trivial, trivial, trivial, trivial, trivial⟩ ?_
  refine pw_blk hT 3 (S' := (9, [some (pvI 6), some (pvI 2), some (pvI 6), some (pvI 0)], [pvI (Int32.ofNat (pvstab 1040).length), pvI 0], M)) rfl ⟨trivial, trivial, (by decide), trivial⟩ ?_
  refine pw_ic hT (c := (Int32.ofNat (pvstab 1040).length) ≤ 0) rfl rfl (fun c1_ => absurd c1_ (by decide)) (fun c1_ => ?_)
  refine pw_blk hT 1 (S' := (13, [some (pvI 6), some (pvI 2), some (pvI 6), some (pvI 0)], [pvI 6], M)) rfl ⟨trivial, trivial⟩ ?_
  refine pw_if hT (c := 6 < 0) rfl rfl (fun c2_ => absurd c2_ (by decide)) (fun c2_ => ?_)
  refine pw_blk hT 2 (S' := (18, [some (pvI 6), some (pvI 2), some (pvI 6), some (pvI 0)], [pvI 2, pvI 6], M)) rfl ⟨trivial, trivial, trivial⟩ ?_
  refine pw_icn hT (c := 6 = 2) rfl rfl (fun c3_ => ?_) (fun c3_ => absurd c3_ (by decide))
  refine pw_blk hT 1 (S' := (24, [some (pvI 6), some (pvI 2), some (pvI 6), some (pvI 0)], [pvI 6], M)) rfl ⟨trivial, trivial⟩ ?_
  refine pw_callT hT (as := [pvI 6]) (lo1 := [some (pvI 6)]) (d1 := d) (rest := []) rfl rfl rfl rfl rfl (fun h => absurd h (by decide)) (Nat.zero_le _) rfl rfl rfl (se_X3_above_6 M hok d) ?_
  refine pw_eqI (show ((pvstab 1040).getD (Int32.toNatClampNeg 6) 0) = 3 from by decide) ?_
  show PW 132 d (27, [some (pvI 6), some (pvI 2), some (pvI 6), some (pvI 0)], [pvI 3], M) _
  refine pw_blk hT 3 (S' := (4, [some (pvI 6), some (pvI 2), some (pvI 3), some (pvI (0 + 1))], [], M)) rfl ⟨trivial, trivial, trivial, trivial⟩ ?_
  refine pw_blk hT 3 (S' := (9, [some (pvI 6), some (pvI 2), some (pvI 3), some (pvI (0 + 1))], [pvI (Int32.ofNat (pvstab 1040).length), pvI (0 + 1)], M)) rfl ⟨trivial, trivial, (by decide), trivial⟩ ?_
  refine pw_ic hT (c := (Int32.ofNat (pvstab 1040).length) ≤ (0 + 1)) rfl rfl (fun c9_ => absurd c9_ (by decide)) (fun c9_ => ?_)
  refine pw_blk hT 1 (S' := (13, [some (pvI 6), some (pvI 2), some (pvI 3), some (pvI (0 + 1))], [pvI 3], M)) rfl ⟨trivial, trivial⟩ ?_
  refine pw_if hT (c := 3 < 0) rfl rfl (fun c10_ => absurd c10_ (by decide)) (fun c10_ => ?_)
  refine pw_blk hT 2 (S' := (18, [some (pvI 6), some (pvI 2), some (pvI 3), some (pvI (0 + 1))], [pvI 2, pvI 3], M)) rfl ⟨trivial, trivial, trivial⟩ ?_
  refine pw_icn hT (c := 3 = 2) rfl rfl (fun c11_ => ?_) (fun c11_ => absurd c11_ (by decide))
  refine pw_blk hT 1 (S' := (24, [some (pvI 6), some (pvI 2), some (pvI 3), some (pvI (0 + 1))], [pvI 3], M)) rfl ⟨trivial, trivial⟩ ?_
  refine pw_callT hT (as := [pvI 3]) (lo1 := [some (pvI 3)]) (d1 := d) (rest := []) rfl rfl rfl rfl rfl (fun h => absurd h (by decide)) (Nat.zero_le _) rfl rfl rfl (se_X3_above_3 M hok d) ?_
  refine pw_eqI (show ((pvstab 1040).getD (Int32.toNatClampNeg 3) 0) = 0 from by decide) ?_
  show PW 132 d (27, [some (pvI 6), some (pvI 2), some (pvI 3), some (pvI (0 + 1))], [pvI 0], M) _
  refine pw_blk hT 3 (S' := (4, [some (pvI 6), some (pvI 2), some (pvI 0), some (pvI ((0 + 1) + 1))], [], M)) rfl ⟨trivial, trivial, trivial, trivial⟩ ?_
  refine pw_blk hT 3 (S' := (9, [some (pvI 6), some (pvI 2), some (pvI 0), some (pvI ((0 + 1) + 1))], [pvI (Int32.ofNat (pvstab 1040).length), pvI ((0 + 1) + 1)], M)) rfl ⟨trivial, trivial, (by decide), trivial⟩ ?_
  refine pw_ic hT (c := (Int32.ofNat (pvstab 1040).length) ≤ ((0 + 1) + 1)) rfl rfl (fun c17_ => absurd c17_ (by decide)) (fun c17_ => ?_)
  refine pw_blk hT 1 (S' := (13, [some (pvI 6), some (pvI 2), some (pvI 0), some (pvI ((0 + 1) + 1))], [pvI 0], M)) rfl ⟨trivial, trivial⟩ ?_
  refine pw_if hT (c := 0 < 0) rfl rfl (fun c18_ => absurd c18_ (by decide)) (fun c18_ => ?_)
  refine pw_blk hT 2 (S' := (18, [some (pvI 6), some (pvI 2), some (pvI 0), some (pvI ((0 + 1) + 1))], [pvI 2, pvI 0], M)) rfl ⟨trivial, trivial, trivial⟩ ?_
  refine pw_icn hT (c := 0 = 2) rfl rfl (fun c19_ => ?_) (fun c19_ => absurd c19_ (by decide))
  refine pw_blk hT 1 (S' := (24, [some (pvI 6), some (pvI 2), some (pvI 0), some (pvI ((0 + 1) + 1))], [pvI 0], M)) rfl ⟨trivial, trivial⟩ ?_
  refine pw_callT hT (as := [pvI 0]) (lo1 := [some (pvI 0)]) (d1 := d) (rest := []) rfl rfl rfl rfl rfl (fun h => absurd h (by decide)) (Nat.zero_le _) rfl rfl rfl (se_X3_above_0 M hok d) ?_
  refine pw_eqI (show ((pvstab 1040).getD (Int32.toNatClampNeg 0) 0) = (-1) from by decide) ?_
  show PW 132 d (27, [some (pvI 6), some (pvI 2), some (pvI 0), some (pvI ((0 + 1) + 1))], [pvI (-1)], M) _
  refine pw_blk hT 3 (S' := (4, [some (pvI 6), some (pvI 2), some (pvI (-1)), some (pvI (((0 + 1) + 1) + 1))], [], M)) rfl ⟨trivial, trivial, trivial, trivial⟩ ?_
  refine pw_blk hT 3 (S' := (9, [some (pvI 6), some (pvI 2), some (pvI (-1)), some (pvI (((0 + 1) + 1) + 1))], [pvI (Int32.ofNat (pvstab 1040).length), pvI (((0 + 1) + 1) + 1)], M)) rfl ⟨trivial, trivial, (by decide), trivial⟩ ?_
  refine pw_ic hT (c := (Int32.ofNat (pvstab 1040).length) ≤ (((0 + 1) + 1) + 1)) rfl rfl (fun c25_ => absurd c25_ (by decide)) (fun c25_ => ?_)
  refine pw_blk hT 1 (S' := (13, [some (pvI 6), some (pvI 2), some (pvI (-1)), some (pvI (((0 + 1) + 1) + 1))], [pvI (-1)], M)) rfl ⟨trivial, trivial⟩ ?_
  refine pw_if hT (c := (-1) < 0) rfl rfl (fun c26_ => ?_) (fun c26_ => absurd (by decide) c26_)
  refine pw_blk hT 1 (S' := (35, [some (pvI 6), some (pvI 2), some (pvI (-1)), some (pvI (((0 + 1) + 1) + 1))], [pvI 0], M)) rfl ⟨trivial, trivial⟩ ?_
  exact pw_ret hT rfl (r := some (pvI 0)) (M' := M) ⟨Or.inl rfl, rfl, rfl⟩ ⟨rfl, rfl⟩
set_option maxHeartbeats 4000000 in
set_option maxRecDepth 10000 in
theorem se_X3_isUnder_6_3 (M : pvM) (hok : pvOk M) (d : Nat) : PW 132 d (0, [some (pvI 6), some (pvI 3), none, none], [], M) (fun r X => r = some (pvI (1)) ∧ X = M) := by
  have hT : pvdom 132 = pvD_132 := rfl
  refine pw_blk hT 4 (S' := (4, [some (pvI 6), some (pvI 3), some (pvI 6), some (pvI 0)], [], M)) rfl ⟨trivial, trivial, trivial, trivial, trivial⟩ ?_
  refine pw_blk hT 3 (S' := (9, [some (pvI 6), some (pvI 3), some (pvI 6), some (pvI 0)], [pvI (Int32.ofNat (pvstab 1040).length), pvI 0], M)) rfl ⟨trivial, trivial, (by decide), trivial⟩ ?_
  refine pw_ic hT (c := (Int32.ofNat (pvstab 1040).length) ≤ 0) rfl rfl (fun c1_ => absurd c1_ (by decide)) (fun c1_ => ?_)
  refine pw_blk hT 1 (S' := (13, [some (pvI 6), some (pvI 3), some (pvI 6), some (pvI 0)], [pvI 6], M)) rfl ⟨trivial, trivial⟩ ?_
  refine pw_if hT (c := 6 < 0) rfl rfl (fun c2_ => absurd c2_ (by decide)) (fun c2_ => ?_)
  refine pw_blk hT 2 (S' := (18, [some (pvI 6), some (pvI 3), some (pvI 6), some (pvI 0)], [pvI 3, pvI 6], M)) rfl ⟨trivial, trivial, trivial⟩ ?_
  refine pw_icn hT (c := 6 = 3) rfl rfl (fun c3_ => ?_) (fun c3_ => absurd c3_ (by decide))
  refine pw_blk hT 1 (S' := (24, [some (pvI 6), some (pvI 3), some (pvI 6), some (pvI 0)], [pvI 6], M)) rfl ⟨trivial, trivial⟩ ?_
  refine pw_callT hT (as := [pvI 6]) (lo1 := [some (pvI 6)]) (d1 := d) (rest := []) rfl rfl rfl rfl rfl (fun h => absurd h (by decide)) (Nat.zero_le _) rfl rfl rfl (se_X3_above_6 M hok d) ?_
  refine pw_eqI (show ((pvstab 1040).getD (Int32.toNatClampNeg 6) 0) = 3 from by decide) ?_
  show PW 132 d (27, [some (pvI 6), some (pvI 3), some (pvI 6), some (pvI 0)], [pvI 3], M) _
  refine pw_blk hT 3 (S' := (4, [some (pvI 6), some (pvI 3), some (pvI 3), some (pvI (0 + 1))], [], M)) rfl ⟨trivial, trivial, trivial, trivial⟩ ?_
  refine pw_blk hT 3 (S' := (9, [some (pvI 6), some (pvI 3), some (pvI 3), some (pvI (0 + 1))], [pvI (Int32.ofNat (pvstab 1040).length), pvI (0 + 1)], M)) rfl ⟨trivial, trivial, (by decide), trivial⟩ ?_
  refine pw_ic hT (c := (Int32.ofNat (pvstab 1040).length) ≤ (0 + 1)) rfl rfl (fun c9_ => absurd c9_ (by decide)) (fun c9_ => ?_)
  refine pw_blk hT 1 (S' := (13, [some (pvI 6), some (pvI 3), some (pvI 3), some (pvI (0 + 1))], [pvI 3], M)) rfl ⟨trivial, trivial⟩ ?_
  refine pw_if hT (c := 3 < 0) rfl rfl (fun c10_ => absurd c10_ (by decide)) (fun c10_ => ?_)
  refine pw_blk hT 2 (S' := (18, [some (pvI 6), some (pvI 3), some (pvI 3), some (pvI (0 + 1))], [pvI 3, pvI 3], M)) rfl ⟨trivial, trivial, trivial⟩ ?_
  refine pw_icn hT (c := 3 = 3) rfl rfl (fun c11_ => absurd (by decide) c11_) (fun c11_ => ?_)
  refine pw_blk hT 1 (S' := (22, [some (pvI 6), some (pvI 3), some (pvI 3), some (pvI (0 + 1))], [pvI 1], M)) rfl ⟨trivial, trivial⟩ ?_
  exact pw_ret hT rfl (r := some (pvI 1)) (M' := M) ⟨Or.inr rfl, rfl, rfl⟩ ⟨rfl, rfl⟩
set_option maxHeartbeats 4000000 in
set_option maxRecDepth 10000 in
theorem se_X3_isUnder_6_4 (M : pvM) (hok : pvOk M) (d : Nat) : PW 132 d (0, [some (pvI 6), some (pvI 4), none, none], [], M) (fun r X => r = some (pvI (0)) ∧ X = M) := by
  have hT : pvdom 132 = pvD_132 := rfl
  refine pw_blk hT 4 (S' := (4, [some (pvI 6), some (pvI 4), some (pvI 6), some (pvI 0)], [], M)) rfl ⟨trivial, trivial, trivial, trivial, trivial⟩ ?_
  refine pw_blk hT 3 (S' := (9, [some (pvI 6), some (pvI 4), some (pvI 6), some (pvI 0)], [pvI (Int32.ofNat (pvstab 1040).length), pvI 0], M)) rfl ⟨trivial, trivial, (by decide), trivial⟩ ?_
  refine pw_ic hT (c := (Int32.ofNat (pvstab 1040).length) ≤ 0) rfl rfl (fun c1_ => absurd c1_ (by decide)) (fun c1_ => ?_)
  refine pw_blk hT 1 (S' := (13, [some (pvI 6), some (pvI 4), some (pvI 6), some (pvI 0)], [pvI 6], M)) rfl ⟨trivial, trivial⟩ ?_
  refine pw_if hT (c := 6 < 0) rfl rfl (fun c2_ => absurd c2_ (by decide)) (fun c2_ => ?_)
  refine pw_blk hT 2 (S' := (18, [some (pvI 6), some (pvI 4), some (pvI 6), some (pvI 0)], [pvI 4, pvI 6], M)) rfl ⟨trivial, trivial, trivial⟩ ?_
  refine pw_icn hT (c := 6 = 4) rfl rfl (fun c3_ => ?_) (fun c3_ => absurd c3_ (by decide))
  refine pw_blk hT 1 (S' := (24, [some (pvI 6), some (pvI 4), some (pvI 6), some (pvI 0)], [pvI 6], M)) rfl ⟨trivial, trivial⟩ ?_
  refine pw_callT hT (as := [pvI 6]) (lo1 := [some (pvI 6)]) (d1 := d) (rest := []) rfl rfl rfl rfl rfl (fun h => absurd h (by decide)) (Nat.zero_le _) rfl rfl rfl (se_X3_above_6 M hok d) ?_
  refine pw_eqI (show ((pvstab 1040).getD (Int32.toNatClampNeg 6) 0) = 3 from by decide) ?_
  show PW 132 d (27, [some (pvI 6), some (pvI 4), some (pvI 6), some (pvI 0)], [pvI 3], M) _
  refine pw_blk hT 3 (S' := (4, [some (pvI 6), some (pvI 4), some (pvI 3), some (pvI (0 + 1))], [], M)) rfl ⟨trivial, trivial, trivial, trivial⟩ ?_
  refine pw_blk hT 3 (S' := (9, [some (pvI 6), some (pvI 4), some (pvI 3), some (pvI (0 + 1))], [pvI (Int32.ofNat (pvstab 1040).length), pvI (0 + 1)], M)) rfl ⟨trivial, trivial, (by decide), trivial⟩ ?_
  refine pw_ic hT (c := (Int32.ofNat (pvstab 1040).length) ≤ (0 + 1)) rfl rfl (fun c9_ => absurd c9_ (by decide)) (fun c9_ => ?_)
  refine pw_blk hT 1 (S' := (13, [some (pvI 6), some (pvI 4), some (pvI 3), some (pvI (0 + 1))], [pvI 3], M)) rfl ⟨trivial, trivial⟩ ?_
  refine pw_if hT (c := 3 < 0) rfl rfl (fun c10_ => absurd c10_ (by decide)) (fun c10_ => ?_)
  refine pw_blk hT 2 (S' := (18, [some (pvI 6), some (pvI 4), some (pvI 3), some (pvI (0 + 1))], [pvI 4, pvI 3], M)) rfl ⟨trivial, trivial, trivial⟩ ?_
  refine pw_icn hT (c := 3 = 4) rfl rfl (fun c11_ => ?_) (fun c11_ => absurd c11_ (by decide))
  refine pw_blk hT 1 (S' := (24, [some (pvI 6), some (pvI 4), some (pvI 3), some (pvI (0 + 1))], [pvI 3], M)) rfl ⟨trivial, trivial⟩ ?_
  refine pw_callT hT (as := [pvI 3]) (lo1 := [some (pvI 3)]) (d1 := d) (rest := []) rfl rfl rfl rfl rfl (fun h => absurd h (by decide)) (Nat.zero_le _) rfl rfl rfl (se_X3_above_3 M hok d) ?_
  refine pw_eqI (show ((pvstab 1040).getD (Int32.toNatClampNeg 3) 0) = 0 from by decide) ?_
  show PW 132 d (27, [some (pvI 6), some (pvI 4), some (pvI 3), some (pvI (0 + 1))], [pvI 0], M) _
  refine pw_blk hT 3 (S' := (4, [some (pvI 6), some (pvI 4), some (pvI 0), some (pvI ((0 + 1) + 1))], [], M)) rfl ⟨trivial, trivial, trivial, trivial⟩ ?_
  refine pw_blk hT 3 (S' := (9, [some (pvI 6), some (pvI 4), some (pvI 0), some (pvI ((0 + 1) + 1))], [pvI (Int32.ofNat (pvstab 1040).length), pvI ((0 + 1) + 1)], M)) rfl ⟨trivial, trivial, (by decide), trivial⟩ ?_
  refine pw_ic hT (c := (Int32.ofNat (pvstab 1040).length) ≤ ((0 + 1) + 1)) rfl rfl (fun c17_ => absurd c17_ (by decide)) (fun c17_ => ?_)
  refine pw_blk hT 1 (S' := (13, [some (pvI 6), some (pvI 4), some (pvI 0), some (pvI ((0 + 1) + 1))], [pvI 0], M)) rfl ⟨trivial, trivial⟩ ?_
  refine pw_if hT (c := 0 < 0) rfl rfl (fun c18_ => absurd c18_ (by decide)) (fun c18_ => ?_)
  refine pw_blk hT 2 (S' := (18, [some (pvI 6), some (pvI 4), some (pvI 0), some (pvI ((0 + 1) + 1))], [pvI 4, pvI 0], M)) rfl ⟨trivial, trivial, trivial⟩ ?_
  refine pw_icn hT (c := 0 = 4) rfl rfl (fun c19_ => ?_) (fun c19_ => absurd c19_ (by decide))
  refine pw_blk hT 1 (S' := (24, [some (pvI 6), some (pvI 4), some (pvI 0), some (pvI ((0 + 1) + 1))], [pvI 0], M)) rfl ⟨trivial, trivial⟩ ?_
  refine pw_callT hT (as := [pvI 0]) (lo1 := [some (pvI 0)]) (d1 := d) (rest := []) rfl rfl rfl rfl rfl (fun h => absurd h (by decide)) (Nat.zero_le _) rfl rfl rfl (se_X3_above_0 M hok d) ?_
  refine pw_eqI (show ((pvstab 1040).getD (Int32.toNatClampNeg 0) 0) = (-1) from by decide) ?_
  show PW 132 d (27, [some (pvI 6), some (pvI 4), some (pvI 0), some (pvI ((0 + 1) + 1))], [pvI (-1)], M) _
  refine pw_blk hT 3 (S' := (4, [some (pvI 6), some (pvI 4), some (pvI (-1)), some (pvI (((0 + 1) + 1) + 1))], [], M)) rfl ⟨trivial, trivial, trivial, trivial⟩ ?_
  refine pw_blk hT 3 (S' := (9, [some (pvI 6), some (pvI 4), some (pvI (-1)), some (pvI (((0 + 1) + 1) + 1))], [pvI (Int32.ofNat (pvstab 1040).length), pvI (((0 + 1) + 1) + 1)], M)) rfl ⟨trivial, trivial, (by decide), trivial⟩ ?_
  refine pw_ic hT (c := (Int32.ofNat (pvstab 1040).length) ≤ (((0 + 1) + 1) + 1)) rfl rfl (fun c25_ => absurd c25_ (by decide)) (fun c25_ => ?_)
  refine pw_blk hT 1 (S' := (13, [some (pvI 6), some (pvI 4), some (pvI (-1)), some (pvI (((0 + 1) + 1) + 1))], [pvI (-1)], M)) rfl ⟨trivial, trivial⟩ ?_
  refine pw_if hT (c := (-1) < 0) rfl rfl (fun c26_ => ?_) (fun c26_ => absurd (by decide) c26_)
  refine pw_blk hT 1 (S' := (35, [some (pvI 6), some (pvI 4), some (pvI (-1)), some (pvI (((0 + 1) + 1) + 1))], [pvI 0], M)) rfl ⟨trivial, trivial⟩ ?_
  exact pw_ret hT rfl (r := some (pvI 0)) (M' := M) ⟨Or.inl rfl, rfl, rfl⟩ ⟨rfl, rfl⟩
set_option maxHeartbeats 4000000 in
set_option maxRecDepth 10000 in
theorem se_X3_isUnder_6_5 (M : pvM) (hok : pvOk M) (d : Nat) : PW 132 d (0, [some (pvI 6), some (pvI 5), none, none], [], M) (fun r X => r = some (pvI (0)) ∧ X = M) := by
  have hT : pvdom 132 = pvD_132 := rfl
  refine pw_blk hT 4 (S' := (4, [some (pvI 6), some (pvI 5), some (pvI 6), some (pvI 0)], [], M)) rfl ⟨trivial, trivial, trivial, trivial, trivial⟩ ?_
  refine pw_blk hT 3 (S' := (9, [some (pvI 6), some (pvI 5), some (pvI 6), some (pvI 0)], [pvI (Int32.ofNat (pvstab 1040).length), pvI 0], M)) rfl ⟨trivial, trivial, (by decide), trivial⟩ ?_
  refine pw_ic hT (c := (Int32.ofNat (pvstab 1040).length) ≤ 0) rfl rfl (fun c1_ => absurd c1_ (by decide)) (fun c1_ => ?_)
  refine pw_blk hT 1 (S' := (13, [some (pvI 6), some (pvI 5), some (pvI 6), some (pvI 0)], [pvI 6], M)) rfl ⟨trivial, trivial⟩ ?_
  refine pw_if hT (c := 6 < 0) rfl rfl (fun c2_ => absurd c2_ (by decide)) (fun c2_ => ?_)
  refine pw_blk hT 2 (S' := (18, [some (pvI 6), some (pvI 5), some (pvI 6), some (pvI 0)], [pvI 5, pvI 6], M)) rfl ⟨trivial, trivial, trivial⟩ ?_
  refine pw_icn hT (c := 6 = 5) rfl rfl (fun c3_ => ?_) (fun c3_ => absurd c3_ (by decide))
  refine pw_blk hT 1 (S' := (24, [some (pvI 6), some (pvI 5), some (pvI 6), some (pvI 0)], [pvI 6], M)) rfl ⟨trivial, trivial⟩ ?_
  refine pw_callT hT (as := [pvI 6]) (lo1 := [some (pvI 6)]) (d1 := d) (rest := []) rfl rfl rfl rfl rfl (fun h => absurd h (by decide)) (Nat.zero_le _) rfl rfl rfl (se_X3_above_6 M hok d) ?_
  refine pw_eqI (show ((pvstab 1040).getD (Int32.toNatClampNeg 6) 0) = 3 from by decide) ?_
  show PW 132 d (27, [some (pvI 6), some (pvI 5), some (pvI 6), some (pvI 0)], [pvI 3], M) _
  refine pw_blk hT 3 (S' := (4, [some (pvI 6), some (pvI 5), some (pvI 3), some (pvI (0 + 1))], [], M)) rfl ⟨trivial, trivial, trivial, trivial⟩ ?_
  refine pw_blk hT 3 (S' := (9, [some (pvI 6), some (pvI 5), some (pvI 3), some (pvI (0 + 1))], [pvI (Int32.ofNat (pvstab 1040).length), pvI (0 + 1)], M)) rfl ⟨trivial, trivial, (by decide), trivial⟩ ?_
  refine pw_ic hT (c := (Int32.ofNat (pvstab 1040).length) ≤ (0 + 1)) rfl rfl (fun c9_ => absurd c9_ (by decide)) (fun c9_ => ?_)
  refine pw_blk hT 1 (S' := (13, [some (pvI 6), some (pvI 5), some (pvI 3), some (pvI (0 + 1))], [pvI 3], M)) rfl ⟨trivial, trivial⟩ ?_
  refine pw_if hT (c := 3 < 0) rfl rfl (fun c10_ => absurd c10_ (by decide)) (fun c10_ => ?_)
  refine pw_blk hT 2 (S' := (18, [some (pvI 6), some (pvI 5), some (pvI 3), some (pvI (0 + 1))], [pvI 5, pvI 3], M)) rfl ⟨trivial, trivial, trivial⟩ ?_
  refine pw_icn hT (c := 3 = 5) rfl rfl (fun c11_ => ?_) (fun c11_ => absurd c11_ (by decide))
  refine pw_blk hT 1 (S' := (24, [some (pvI 6), some (pvI 5), some (pvI 3), some (pvI (0 + 1))], [pvI 3], M)) rfl ⟨trivial, trivial⟩ ?_
  refine pw_callT hT (as := [pvI 3]) (lo1 := [some (pvI 3)]) (d1 := d) (rest := []) rfl rfl rfl rfl rfl (fun h => absurd h (by decide)) (Nat.zero_le _) rfl rfl rfl (se_X3_above_3 M hok d) ?_
  refine pw_eqI (show ((pvstab 1040).getD (Int32.toNatClampNeg 3) 0) = 0 from by decide) ?_
  show PW 132 d (27, [some (pvI 6), some (pvI 5), some (pvI 3), some (pvI (0 + 1))], [pvI 0], M) _
  refine pw_blk hT 3 (S' := (4, [some (pvI 6), some (pvI 5), some (pvI 0), some (pvI ((0 + 1) + 1))], [], M)) rfl ⟨trivial, trivial, trivial, trivial⟩ ?_
  refine pw_blk hT 3 (S' := (9, [some (pvI 6), some (pvI 5), some (pvI 0), some (pvI ((0 + 1) + 1))], [pvI (Int32.ofNat (pvstab 1040).length), pvI ((0 + 1) + 1)], M)) rfl ⟨trivial, trivial, (by decide), trivial⟩ ?_
  refine pw_ic hT (c := (Int32.ofNat (pvstab 1040).length) ≤ ((0 + 1) + 1)) rfl rfl (fun c17_ => absurd c17_ (by decide)) (fun c17_ => ?_)
  refine pw_blk hT 1 (S' := (13, [some (pvI 6), some (pvI 5), some (pvI 0), some (pvI ((0 + 1) + 1))], [pvI 0], M)) rfl ⟨trivial, trivial⟩ ?_
  refine pw_if hT (c := 0 < 0) rfl rfl (fun c18_ => absurd c18_ (by decide)) (fun c18_ => ?_)
  refine pw_blk hT 2 (S' := (18, [some (pvI 6), some (pvI 5), some (pvI 0), some (pvI ((0 + 1) + 1))], [pvI 5, pvI 0], M)) rfl ⟨trivial, trivial, trivial⟩ ?_
  refine pw_icn hT (c := 0 = 5) rfl rfl (fun c19_ => ?_) (fun c19_ => absurd c19_ (by decide))
  refine pw_blk hT 1 (S' := (24, [some (pvI 6), some (pvI 5), some (pvI 0), some (pvI ((0 + 1) + 1))], [pvI 0], M)) rfl ⟨trivial, trivial⟩ ?_
  refine pw_callT hT (as := [pvI 0]) (lo1 := [some (pvI 0)]) (d1 := d) (rest := []) rfl rfl rfl rfl rfl (fun h => absurd h (by decide)) (Nat.zero_le _) rfl rfl rfl (se_X3_above_0 M hok d) ?_
  refine pw_eqI (show ((pvstab 1040).getD (Int32.toNatClampNeg 0) 0) = (-1) from by decide) ?_
  show PW 132 d (27, [some (pvI 6), some (pvI 5), some (pvI 0), some (pvI ((0 + 1) + 1))], [pvI (-1)], M) _
  refine pw_blk hT 3 (S' := (4, [some (pvI 6), some (pvI 5), some (pvI (-1)), some (pvI (((0 + 1) + 1) + 1))], [], M)) rfl ⟨trivial, trivial, trivial, trivial⟩ ?_
  refine pw_blk hT 3 (S' := (9, [some (pvI 6), some (pvI 5), some (pvI (-1)), some (pvI (((0 + 1) + 1) + 1))], [pvI (Int32.ofNat (pvstab 1040).length), pvI (((0 + 1) + 1) + 1)], M)) rfl ⟨trivial, trivial, (by decide), trivial⟩ ?_
  refine pw_ic hT (c := (Int32.ofNat (pvstab 1040).length) ≤ (((0 + 1) + 1) + 1)) rfl rfl (fun c25_ => absurd c25_ (by decide)) (fun c25_ => ?_)
  refine pw_blk hT 1 (S' := (13, [some (pvI 6), some (pvI 5), some (pvI (-1)), some (pvI (((0 + 1) + 1) + 1))], [pvI (-1)], M)) rfl ⟨trivial, trivial⟩ ?_
  refine pw_if hT (c := (-1) < 0) rfl rfl (fun c26_ => ?_) (fun c26_ => absurd (by decide) c26_)
  refine pw_blk hT 1 (S' := (35, [some (pvI 6), some (pvI 5), some (pvI (-1)), some (pvI (((0 + 1) + 1) + 1))], [pvI 0], M)) rfl ⟨trivial, trivial⟩ ?_
  exact pw_ret hT rfl (r := some (pvI 0)) (M' := M) ⟨Or.inl rfl, rfl, rfl⟩ ⟨rfl, rfl⟩
set_option maxHeartbeats 4000000 in
set_option maxRecDepth 10000 in
theorem se_X3_isUnder_6_6 (M : pvM) (hok : pvOk M) (d : Nat) : PW 132 d (0, [some (pvI 6), some (pvI 6), none, none], [], M) (fun r X => r = some (pvI (1)) ∧ X = M) := by
  have hT : pvdom 132 = pvD_132 := rfl
  refine pw_blk hT 4 (S' := (4, [some (pvI 6), some (pvI 6), some (pvI 6), some (pvI 0)], [], M)) rfl ⟨trivial, trivial, trivial, trivial, trivial⟩ ?_
  refine pw_blk hT 3 (S' := (9, [some (pvI 6), some (pvI 6), some (pvI 6), some (pvI 0)], [pvI (Int32.ofNat (pvstab 1040).length), pvI 0], M)) rfl ⟨trivial, trivial, (by decide), trivial⟩ ?_
  refine pw_ic hT (c := (Int32.ofNat (pvstab 1040).length) ≤ 0) rfl rfl (fun c1_ => absurd c1_ (by decide)) (fun c1_ => ?_)
  refine pw_blk hT 1 (S' := (13, [some (pvI 6), some (pvI 6), some (pvI 6), some (pvI 0)], [pvI 6], M)) rfl ⟨trivial, trivial⟩ ?_
  refine pw_if hT (c := 6 < 0) rfl rfl (fun c2_ => absurd c2_ (by decide)) (fun c2_ => ?_)
  refine pw_blk hT 2 (S' := (18, [some (pvI 6), some (pvI 6), some (pvI 6), some (pvI 0)], [pvI 6, pvI 6], M)) rfl ⟨trivial, trivial, trivial⟩ ?_
  refine pw_icn hT (c := 6 = 6) rfl rfl (fun c3_ => absurd (by decide) c3_) (fun c3_ => ?_)
  refine pw_blk hT 1 (S' := (22, [some (pvI 6), some (pvI 6), some (pvI 6), some (pvI 0)], [pvI 1], M)) rfl ⟨trivial, trivial⟩ ?_
  exact pw_ret hT rfl (r := some (pvI 1)) (M' := M) ⟨Or.inr rfl, rfl, rfl⟩ ⟨rfl, rfl⟩
set_option maxHeartbeats 4000000 in
set_option maxRecDepth 10000 in
theorem se_X9_taken_0_x_x (M : pvM) (hok : pvOk M) (n1 : Int32) (n2 : Int32) (d : Nat) : PW 203 d (0, [some (pvR 0), some (pvI n1), some (pvI n2), none], [], M) (fun r X => (∃ x : Int32, r = some (pvI x) ∧ ((-12) ≤ Int32.toInt x ∧ Int32.toInt x ≤ 6) ∧ x = (if n2 < 0 then (-2) else (if 6 < n2 then (-2) else (if n1 < 0 then (-11) else (if (M.1 8 1) ≤ n1 then (-11) else (if (M.1 (pvbs 10 + Int32.toNatClampNeg n1) 0) = 0 then (if n2 = 0 then (M.1 (pvbs 10 + Int32.toNatClampNeg n1) 0) else (-12)) else (if (M.1 (pvbs 10 + Int32.toNatClampNeg n1) 0) = 1 then (if n2 = 0 then (M.1 (pvbs 10 + Int32.toNatClampNeg n1) 0) else (if n2 = 1 then (M.1 (pvbs 10 + Int32.toNatClampNeg n1) 0) else (-12))) else (if (M.1 (pvbs 10 + Int32.toNatClampNeg n1) 0) = 2 then (if n2 = 0 then (M.1 (pvbs 10 + Int32.toNatClampNeg n1) 0) else (if n2 = 1 then (-12) else (if n2 = 2 then (M.1 (pvbs 10 + Int32.toNatClampNeg n1) 0) else (-12)))) else (if (M.1 (pvbs 10 + Int32.toNatClampNeg n1) 0) = 3 then (if n2 = 0 then (M.1 (pvbs 10 + Int32.toNatClampNeg n1) 0) else (if n2 = 1 then (-12) else (if n2 = 2 then (-12) else (if n2 = 3 then (M.1 (pvbs 10 + Int32.toNatClampNeg n1) 0) else (-12))))) else (if (M.1 (pvbs 10 + Int32.toNatClampNeg n1) 0) = 4 then (if n2 = 0 then (M.1 (pvbs 10 + Int32.toNatClampNeg n1) 0) else (if n2 = 1 then (M.1 (pvbs 10 + Int32.toNatClampNeg n1) 0) else (if n2 = 2 then (-12) else (if n2 = 3 then (-12) else (if n2 = 4 then (M.1 (pvbs 10 + Int32.toNatClampNeg n1) 0) else (-12)))))) else (if (M.1 (pvbs 10 + Int32.toNatClampNeg n1) 0) = 5 then (if n2 = 0 then (M.1 (pvbs 10 + Int32.toNatClampNeg n1) 0) else (if n2 = 1 then (-12) else (if n2 = 2 then (M.1 (pvbs 10 + Int32.toNatClampNeg n1) 0) else (if n2 = 3 then (-12) else (if n2 = 4 then (-12) else (if n2 = 5 then (M.1 (pvbs 10 + Int32.toNatClampNeg n1) 0) else (-12))))))) else (if n2 = 0 then (M.1 (pvbs 10 + Int32.toNatClampNeg n1) 0) else (if n2 = 1 then (-12) else (if n2 = 2 then (-12) else (if n2 = 3 then (M.1 (pvbs 10 + Int32.toNatClampNeg n1) 0) else (if n2 = 4 then (-12) else (if n2 = 5 then (-12) else (M.1 (pvbs 10 + Int32.toNatClampNeg n1) 0)))))))))))))))))) ∧ X = M) := by
  have hT : pvdom 203 = pvD_203 := rfl
  refine pw_blk hT 3 (S' := (4, [some (pvR 0), some (pvI n1), some (pvI n2), none], [pvI 6, pvI 0, pvI n2], M)) rfl ⟨trivial, trivial, trivial, trivial⟩ ?_
  refine pw_callT hT (as := [pvI n2, pvI 0, pvI 6]) (lo1 := [some (pvI n2), some (pvI 0), some (pvI 6)]) (d1 := d) (rest := []) rfl rfl rfl rfl rfl (fun h => absurd h (by decide)) (Nat.zero_le _) rfl rfl rfl (sf_X9_within_x_x_x M hok n2 0 6 d) ?_
  by_cases c6_ : n2 < 0
  · refine pw_eqI (if_pos c6_) ?_
    have b7_ : (-2147483648) ≤ Int32.toInt n2 ∧ Int32.toInt n2 ≤ (-1) := zr_lt_l (-1) c6_ (zbnd n2) (show 0 ≤ Int32.toInt 0 ∧ Int32.toInt 0 ≤ 0 from (by decide)) (by decide)
    show PW 203 d (7, [some (pvR 0), some (pvI n1), some (pvI n2), none], [pvI 0], M) _
    refine pw_ifn hT (c := 0 = 0) rfl rfl (fun c8_ => absurd (by decide) c8_) (fun c8_ => ?_)
    refine pw_blk hT 1 (S' := (12, [some (pvR 0), some (pvI n1), some (pvI n2), none], [pvI (-2)], M)) rfl ⟨trivial, trivial⟩ ?_
    exact pw_ret hT rfl (r := some (pvI (-2))) (M' := M) ⟨rfl, rfl⟩ ⟨⟨_, rfl, (zr_wide (show (-2) ≤ Int32.toInt (-2) ∧ Int32.toInt (-2) ≤ (-2) from (by decide)) (by decide) (by decide)), (by rw [if_pos c6_]; first | done | (rw [if_pos c6_]; done))⟩, rfl⟩
  · refine pw_eqI (if_neg c6_) ?_
    have b9_ : 0 ≤ Int32.toInt n2 ∧ Int32.toInt n2 ≤ 2147483647 := zr_nlt_l 0 c6_ (zbnd n2) (show 0 ≤ Int32.toInt 0 ∧ Int32.toInt 0 ≤ 0 from (by decide)) (by decide)
    by_cases c10_ : 6 < n2
    · refine pw_eqI (if_pos c10_) ?_
      have b11_ : 7 ≤ Int32.toInt n2 ∧ Int32.toInt n2 ≤ 2147483647 := zr_lt_r 7 c10_ b9_ (show 6 ≤ Int32.toInt 6 ∧ Int32.toInt 6 ≤ 6 from (by decide)) (by decide)
      show PW 203 d (7, [some (pvR 0), some (pvI n1), some (pvI n2), none], [pvI 0], M) _
      refine pw_ifn hT (c := 0 = 0) rfl rfl (fun c12_ => absurd (by decide) c12_) (fun c12_ => ?_)
      refine pw_blk hT 1 (S' := (12, [some (pvR 0), some (pvI n1), some (pvI n2), none], [pvI (-2)], M)) rfl ⟨trivial, trivial⟩ ?_
      exact pw_ret hT rfl (r := some (pvI (-2))) (M' := M) ⟨rfl, rfl⟩ ⟨⟨_, rfl, (zr_wide (show (-2) ≤ Int32.toInt (-2) ∧ Int32.toInt (-2) ≤ (-2) from (by decide)) (by decide) (by decide)), (by rw [if_neg c6_, if_pos c10_]; first | done | (rw [if_pos c10_]; done))⟩, rfl⟩
    · refine pw_eqI (if_neg c10_) ?_
      have b13_ : 0 ≤ Int32.toInt n2 ∧ Int32.toInt n2 ≤ 6 := zr_nlt_r 6 c10_ b9_ (show 6 ≤ Int32.toInt 6 ∧ Int32.toInt 6 ≤ 6 from (by decide)) (by decide)
      show PW 203 d (7, [some (pvR 0), some (pvI n1), some (pvI n2), none], [pvI 1], M) _
      refine pw_ifn hT (c := 1 = 0) rfl rfl (fun c14_ => ?_) (fun c14_ => absurd c14_ (by decide))
      refine pw_blk hT 3 (S' := (18, [some (pvR 0), some (pvI n1), some (pvI n2), none], [pvI n1, pvR 8], M)) rfl ⟨trivial, rfl, trivial, trivial⟩ ?_
      refine pw_callT hT (as := [pvR 8, pvI n1]) (lo1 := [some (pvR 8), some (pvI n1)]) (d1 := d) (rest := []) rfl rfl rfl rfl rfl (fun _ => rfl) (Nat.zero_le _) rfl rfl rfl (sf_X7_has_8_x M hok n1 d) ?_
      by_cases c20_ : n1 < 0
      · refine pw_eqI (if_pos c20_) ?_
        have b21_ : (-2147483648) ≤ Int32.toInt n1 ∧ Int32.toInt n1 ≤ (-1) := zr_lt_l (-1) c20_ (zbnd n1) (show 0 ≤ Int32.toInt 0 ∧ Int32.toInt 0 ≤ 0 from (by decide)) (by decide)
        show PW 203 d (21, [some (pvR 0), some (pvI n1), some (pvI n2), none], [pvI 0], M) _
        refine pw_ifn hT (c := 0 = 0) rfl rfl (fun c22_ => absurd (by decide) c22_) (fun c22_ => ?_)
        refine pw_blk hT 1 (S' := (26, [some (pvR 0), some (pvI n1), some (pvI n2), none], [pvI (-11)], M)) rfl ⟨trivial, trivial⟩ ?_
        exact pw_ret hT rfl (r := some (pvI (-11))) (M' := M) ⟨rfl, rfl⟩ ⟨⟨_, rfl, (zr_wide (show (-11) ≤ Int32.toInt (-11) ∧ Int32.toInt (-11) ≤ (-11) from (by decide)) (by decide) (by decide)), (by rw [if_neg c6_, if_neg c10_, if_pos c20_]; first | done | (rw [if_pos c20_]; done))⟩, rfl⟩
      · refine pw_eqI (if_neg c20_) ?_
        have b23_ : 0 ≤ Int32.toInt n1 ∧ Int32.toInt n1 ≤ 2147483647 := zr_nlt_l 0 c20_ (zbnd n1) (show 0 ≤ Int32.toInt 0 ∧ Int32.toInt 0 ≤ 0 from (by decide)) (by decide)
        have b24_ : 0 ≤ Int32.toInt (M.1 8 1) ∧ Int32.toInt (M.1 8 1) ≤ 7 := pvok_r hok 8 1 rfl
        by_cases c25_ : (M.1 8 1) ≤ n1
        · refine pw_eqI (if_pos c25_) ?_
          have d26_ : Int32.toInt (M.1 8 1) ≤ Int32.toInt n1 := (zi_le _ _).mp c25_
          show PW 203 d (21, [some (pvR 0), some (pvI n1), some (pvI n2), none], [pvI 0], M) _
          refine pw_ifn hT (c := 0 = 0) rfl rfl (fun c27_ => absurd (by decide) c27_) (fun c27_ => ?_)
          refine pw_blk hT 1 (S' := (26, [some (pvR 0), some (pvI n1), some (pvI n2), none], [pvI (-11)], M)) rfl ⟨trivial, trivial⟩ ?_
          exact pw_ret hT rfl (r := some (pvI (-11))) (M' := M) ⟨rfl, rfl⟩ ⟨⟨_, rfl, (zr_wide (show (-11) ≤ Int32.toInt (-11) ∧ Int32.toInt (-11) ≤ (-11) from (by decide)) (by decide) (by decide)), (by rw [if_neg c6_, if_neg c10_, if_neg c20_, if_pos c25_]; first | done | (rw [if_pos c25_]; done))⟩, rfl⟩
        · refine pw_eqI (if_neg c25_) ?_
          have b28_ : 1 ≤ Int32.toInt (M.1 8 1) ∧ Int32.toInt (M.1 8 1) ≤ 7 := zr_nle_l 1 c25_ b24_ b23_ (by decide)
          have b29_ : 0 ≤ Int32.toInt n1 ∧ Int32.toInt n1 ≤ 6 := zr_nle_r 6 c25_ b23_ b28_ (by decide)
          have d30_ : Int32.toInt (M.1 8 1) > Int32.toInt n1 := Int.not_le.mp ((not_congr (zi_le _ _)).mp c25_)
          show PW 203 d (21, [some (pvR 0), some (pvI n1), some (pvI n2), none], [pvI 1], M) _
          refine pw_ifn hT (c := 1 = 0) rfl rfl (fun c31_ => ?_) (fun c31_ => absurd c31_ (by decide))
          refine pw_blkr hT 5 (pc := 36) (lo := [some (pvR 0), some (pvI n1), some (pvI n2), none]) (st := []) (M := M) (z := (pvbs 10 + Int32.toNatClampNeg n1)) rfl ⟨trivial, rfl, rfl, trivial, ⟨rfl, (zr_in (n := 7) b29_ (by decide) (by decide))⟩, trivial⟩ (fun q32_ e34_ => ?_)
          have k33_ : pvkl q32_ = 3 := pvel_10 (zr_in (n := 7) b29_ (by decide) (by decide)) e34_
          subst e34_
          have b35_ : 0 ≤ Int32.toInt (M.1 (pvbs 10 + Int32.toNatClampNeg n1) 0) ∧ Int32.toInt (M.1 (pvbs 10 + Int32.toNatClampNeg n1) 0) ≤ 6 := pvok_r hok (pvbs 10 + Int32.toNatClampNeg n1) 0 ((pvrg_o 0 k33_ (by decide) (by decide)).trans rfl)
          refine pw_blk hT 3 (S' := (41, [some (pvR 0), some (pvI n1), some (pvI n2), some (pvI (M.1 (pvbs 10 + Int32.toNatClampNeg n1) 0))], [pvI (M.1 (pvbs 10 + Int32.toNatClampNeg n1) 0)], M)) rfl ⟨k33_, trivial, trivial, trivial⟩ ?_
          by_cases c36_ : (M.1 (pvbs 10 + Int32.toNatClampNeg n1) 0) = 0
          · refine pw_eqI c36_ ?_
            have b37_ : 0 ≤ Int32.toInt (M.1 (pvbs 10 + Int32.toNatClampNeg n1) 0) ∧ Int32.toInt (M.1 (pvbs 10 + Int32.toNatClampNeg n1) 0) ≤ 0 := (by have u0 := b35_; have u1 := (zi_eq _ _).mp c36_; have u2 := (show 0 ≤ Int32.toInt 0 ∧ Int32.toInt 0 ≤ 0 from (by decide)); omega)
            refine pw_blk hT 1 (S' := (42, [some (pvR 0), some (pvI n1), some (pvI n2), some (pvI (M.1 (pvbs 10 + Int32.toNatClampNeg n1) 0))], [pvI n2, pvI 0], M)) rfl ⟨trivial, trivial⟩ ?_
            by_cases c38_ : n2 = 0
            · refine pw_eqI c38_ ?_
              have b39_ : 0 ≤ Int32.toInt n2 ∧ Int32.toInt n2 ≤ 0 := (by have u0 := b13_; have u1 := (zi_eq _ _).mp c38_; have u2 := (show 0 ≤ Int32.toInt 0 ∧ Int32.toInt 0 ≤ 0 from (by decide)); omega)
              refine pw_callT hT (as := [pvI 0, pvI 0]) (lo1 := [some (pvI 0), some (pvI 0), none, none]) (d1 := d) (rest := []) rfl rfl rfl rfl rfl (fun h => absurd h (by decide)) (Nat.zero_le _) rfl rfl rfl (se_X3_isUnder_0_0 M hok d) ?_
              show PW 203 d (45, [some (pvR 0), some (pvI n1), some (pvI n2), some (pvI (M.1 (pvbs 10 + Int32.toNatClampNeg n1) 0))], [pvI 1], M) _
              refine pw_if hT (c := 1 = 0) rfl rfl (fun c45_ => absurd c45_ (by decide)) (fun c45_ => ?_)
              refine pw_blk hT 2 (S' := (54, [some (pvR 0), some (pvI n1), some (pvI n2), some (pvI (M.1 (pvbs 10 + Int32.toNatClampNeg n1) 0))], [pvI (M.1 (pvbs 10 + Int32.toNatClampNeg n1) 0)], M)) rfl ⟨trivial, trivial, trivial⟩ ?_
              exact pw_ret hT rfl (r := some (pvI (M.1 (pvbs 10 + Int32.toNatClampNeg n1) 0))) (M' := M) ⟨rfl, rfl⟩ ⟨⟨_, rfl, (zr_wide b37_ (by decide) (by decide)), (by rw [if_neg c6_, if_neg c10_, if_neg c20_, if_neg c25_, if_pos c36_, if_pos c38_]; first | done | (rw [if_pos c38_]; done))⟩, rfl⟩
            · have b46_ : 1 ≤ Int32.toInt n2 ∧ Int32.toInt n2 ≤ 6 := (by have u0 := b13_; have u1 := (not_congr (zi_eq _ _)).mp c38_; have u2 := (show 0 ≤ Int32.toInt 0 ∧ Int32.toInt 0 ≤ 0 from (by decide)); omega)
              by_cases c47_ : n2 = 1
              · refine pw_eqI c47_ ?_
                have b48_ : 1 ≤ Int32.toInt n2 ∧ Int32.toInt n2 ≤ 1 := (by have u0 := b46_; have u1 := (zi_eq _ _).mp c47_; have u2 := (show 1 ≤ Int32.toInt 1 ∧ Int32.toInt 1 ≤ 1 from (by decide)); omega)
                refine pw_callT hT (as := [pvI 0, pvI 1]) (lo1 := [some (pvI 0), some (pvI 1), none, none]) (d1 := d) (rest := []) rfl rfl rfl rfl rfl (fun h => absurd h (by decide)) (Nat.zero_le _) rfl rfl rfl (se_X3_isUnder_0_1 M hok d) ?_
                show PW 203 d (45, [some (pvR 0), some (pvI n1), some (pvI n2), some (pvI (M.1 (pvbs 10 + Int32.toNatClampNeg n1) 0))], [pvI 0], M) _
                refine pw_if hT (c := 0 = 0) rfl rfl (fun c54_ => ?_) (fun c54_ => absurd (by decide) c54_)
                refine pw_blk hT 1 (S' := (54, [some (pvR 0), some (pvI n1), some (pvI n2), some (pvI (M.1 (pvbs 10 + Int32.toNatClampNeg n1) 0))], [pvI (-12)], M)) rfl ⟨trivial, trivial⟩ ?_
                exact pw_ret hT rfl (r := some (pvI (-12))) (M' := M) ⟨rfl, rfl⟩ ⟨⟨_, rfl, (zr_wide (show (-12) ≤ Int32.toInt (-12) ∧ Int32.toInt (-12) ≤ (-12) from (by decide)) (by decide) (by decide)), (by rw [if_neg c6_, if_neg c10_, if_neg c20_, if_neg c25_, if_pos c36_, if_neg c38_]; first | done | (rw [if_neg c38_]; done))⟩, rfl⟩
              · have b55_ : 2 ≤ Int32.toInt n2 ∧ Int32.toInt n2 ≤ 6 := (by have u0 := b46_; have u1 := (not_congr (zi_eq _ _)).mp c47_; have u2 := (show 1 ≤ Int32.toInt 1 ∧ Int32.toInt 1 ≤ 1 from (by decide)); omega)
                by_cases c56_ : n2 = 2
                · refine pw_eqI c56_ ?_
                  have b57_ : 2 ≤ Int32.toInt n2 ∧ Int32.toInt n2 ≤ 2 := (by have u0 := b55_; have u1 := (zi_eq _ _).mp c56_; have u2 := (show 2 ≤ Int32.toInt 2 ∧ Int32.toInt 2 ≤ 2 from (by decide)); omega)
                  refine pw_callT hT (as := [pvI 0, pvI 2]) (lo1 := [some (pvI 0), some (pvI 2), none, none]) (d1 := d) (rest := []) rfl rfl rfl rfl rfl (fun h => absurd h (by decide)) (Nat.zero_le _) rfl rfl rfl (se_X3_isUnder_0_2 M hok d) ?_
                  show PW 203 d (45, [some (pvR 0), some (pvI n1), some (pvI n2), some (pvI (M.1 (pvbs 10 + Int32.toNatClampNeg n1) 0))], [pvI 0], M) _
                  refine pw_if hT (c := 0 = 0) rfl rfl (fun c63_ => ?_) (fun c63_ => absurd (by decide) c63_)
                  refine pw_blk hT 1 (S' := (54, [some (pvR 0), some (pvI n1), some (pvI n2), some (pvI (M.1 (pvbs 10 + Int32.toNatClampNeg n1) 0))], [pvI (-12)], M)) rfl ⟨trivial, trivial⟩ ?_
                  exact pw_ret hT rfl (r := some (pvI (-12))) (M' := M) ⟨rfl, rfl⟩ ⟨⟨_, rfl, (zr_wide (show (-12) ≤ Int32.toInt (-12) ∧ Int32.toInt (-12) ≤ (-12) from (by decide)) (by decide) (by decide)), (by rw [if_neg c6_, if_neg c10_, if_neg c20_, if_neg c25_, if_pos c36_, if_neg c38_]; first | done | (rw [if_neg c38_]; done))⟩, rfl⟩
                · have b64_ : 3 ≤ Int32.toInt n2 ∧ Int32.toInt n2 ≤ 6 := (by have u0 := b55_; have u1 := (not_congr (zi_eq _ _)).mp c56_; have u2 := (show 2 ≤ Int32.toInt 2 ∧ Int32.toInt 2 ≤ 2 from (by decide)); omega)
                  by_cases c65_ : n2 = 3
                  · refine pw_eqI c65_ ?_
                    have b66_ : 3 ≤ Int32.toInt n2 ∧ Int32.toInt n2 ≤ 3 := (by have u0 := b64_; have u1 := (zi_eq _ _).mp c65_; have u2 := (show 3 ≤ Int32.toInt 3 ∧ Int32.toInt 3 ≤ 3 from (by decide)); omega)
                    refine pw_callT hT (as := [pvI 0, pvI 3]) (lo1 := [some (pvI 0), some (pvI 3), none, none]) (d1 := d) (rest := []) rfl rfl rfl rfl rfl (fun h => absurd h (by decide)) (Nat.zero_le _) rfl rfl rfl (se_X3_isUnder_0_3 M hok d) ?_
                    show PW 203 d (45, [some (pvR 0), some (pvI n1), some (pvI n2), some (pvI (M.1 (pvbs 10 + Int32.toNatClampNeg n1) 0))], [pvI 0], M) _
                    refine pw_if hT (c := 0 = 0) rfl rfl (fun c72_ => ?_) (fun c72_ => absurd (by decide) c72_)
                    refine pw_blk hT 1 (S' := (54, [some (pvR 0), some (pvI n1), some (pvI n2), some (pvI (M.1 (pvbs 10 + Int32.toNatClampNeg n1) 0))], [pvI (-12)], M)) rfl ⟨trivial, trivial⟩ ?_
                    exact pw_ret hT rfl (r := some (pvI (-12))) (M' := M) ⟨rfl, rfl⟩ ⟨⟨_, rfl, (zr_wide (show (-12) ≤ Int32.toInt (-12) ∧ Int32.toInt (-12) ≤ (-12) from (by decide)) (by decide) (by decide)), (by rw [if_neg c6_, if_neg c10_, if_neg c20_, if_neg c25_, if_pos c36_, if_neg c38_]; first | done | (rw [if_neg c38_]; done))⟩, rfl⟩
                  · have b73_ : 4 ≤ Int32.toInt n2 ∧ Int32.toInt n2 ≤ 6 := (by have u0 := b64_; have u1 := (not_congr (zi_eq _ _)).mp c65_; have u2 := (show 3 ≤ Int32.toInt 3 ∧ Int32.toInt 3 ≤ 3 from (by decide)); omega)
                    by_cases c74_ : n2 = 4
                    · refine pw_eqI c74_ ?_
                      have b75_ : 4 ≤ Int32.toInt n2 ∧ Int32.toInt n2 ≤ 4 := (by have u0 := b73_; have u1 := (zi_eq _ _).mp c74_; have u2 := (show 4 ≤ Int32.toInt 4 ∧ Int32.toInt 4 ≤ 4 from (by decide)); omega)
                      refine pw_callT hT (as := [pvI 0, pvI 4]) (lo1 := [some (pvI 0), some (pvI 4), none, none]) (d1 := d) (rest := []) rfl rfl rfl rfl rfl (fun h => absurd h (by decide)) (Nat.zero_le _) rfl rfl rfl (se_X3_isUnder_0_4 M hok d) ?_
                      show PW 203 d (45, [some (pvR 0), some (pvI n1), some (pvI n2), some (pvI (M.1 (pvbs 10 + Int32.toNatClampNeg n1) 0))], [pvI 0], M) _
                      refine pw_if hT (c := 0 = 0) rfl rfl (fun c81_ => ?_) (fun c81_ => absurd (by decide) c81_)
                      refine pw_blk hT 1 (S' := (54, [some (pvR 0), some (pvI n1), some (pvI n2), some (pvI (M.1 (pvbs 10 + Int32.toNatClampNeg n1) 0))], [pvI (-12)], M)) rfl ⟨trivial, trivial⟩ ?_
                      exact pw_ret hT rfl (r := some (pvI (-12))) (M' := M) ⟨rfl, rfl⟩ ⟨⟨_, rfl, (zr_wide (show (-12) ≤ Int32.toInt (-12) ∧ Int32.toInt (-12) ≤ (-12) from (by decide)) (by decide) (by decide)), (by rw [if_neg c6_, if_neg c10_, if_neg c20_, if_neg c25_, if_pos c36_, if_neg c38_]; first | done | (rw [if_neg c38_]; done))⟩, rfl⟩
                    · have b82_ : 5 ≤ Int32.toInt n2 ∧ Int32.toInt n2 ≤ 6 := (by have u0 := b73_; have u1 := (not_congr (zi_eq _ _)).mp c74_; have u2 := (show 4 ≤ Int32.toInt 4 ∧ Int32.toInt 4 ≤ 4 from (by decide)); omega)
                      by_cases c83_ : n2 = 5
                      · refine pw_eqI c83_ ?_
                        have b84_ : 5 ≤ Int32.toInt n2 ∧ Int32.toInt n2 ≤ 5 := (by have u0 := b82_; have u1 := (zi_eq _ _).mp c83_; have u2 := (show 5 ≤ Int32.toInt 5 ∧ Int32.toInt 5 ≤ 5 from (by decide)); omega)
                        refine pw_callT hT (as := [pvI 0, pvI 5]) (lo1 := [some (pvI 0), some (pvI 5), none, none]) (d1 := d) (rest := []) rfl rfl rfl rfl rfl (fun h => absurd h (by decide)) (Nat.zero_le _) rfl rfl rfl (se_X3_isUnder_0_5 M hok d) ?_
                        show PW 203 d (45, [some (pvR 0), some (pvI n1), some (pvI n2), some (pvI (M.1 (pvbs 10 + Int32.toNatClampNeg n1) 0))], [pvI 0], M) _
                        refine pw_if hT (c := 0 = 0) rfl rfl (fun c90_ => ?_) (fun c90_ => absurd (by decide) c90_)
                        refine pw_blk hT 1 (S' := (54, [some (pvR 0), some (pvI n1), some (pvI n2), some (pvI (M.1 (pvbs 10 + Int32.toNatClampNeg n1) 0))], [pvI (-12)], M)) rfl ⟨trivial, trivial⟩ ?_
                        exact pw_ret hT rfl (r := some (pvI (-12))) (M' := M) ⟨rfl, rfl⟩ ⟨⟨_, rfl, (zr_wide (show (-12) ≤ Int32.toInt (-12) ∧ Int32.toInt (-12) ≤ (-12) from (by decide)) (by decide) (by decide)), (by rw [if_neg c6_, if_neg c10_, if_neg c20_, if_neg c25_, if_pos c36_, if_neg c38_]; first | done | (rw [if_neg c38_]; done))⟩, rfl⟩
                      · have b91_ : 6 ≤ Int32.toInt n2 ∧ Int32.toInt n2 ≤ 6 := (by have u0 := b82_; have u1 := (not_congr (zi_eq _ _)).mp c83_; have u2 := (show 5 ≤ Int32.toInt 5 ∧ Int32.toInt 5 ≤ 5 from (by decide)); omega)
                        refine pw_eqI ((zi_eq _ (6)).mpr (by have u0 := b91_; have u1 : Int32.toInt (6) = 6 := (by decide); omega)) ?_
                        refine pw_callT hT (as := [pvI 0, pvI 6]) (lo1 := [some (pvI 0), some (pvI 6), none, none]) (d1 := d) (rest := []) rfl rfl rfl rfl rfl (fun h => absurd h (by decide)) (Nat.zero_le _) rfl rfl rfl (se_X3_isUnder_0_6 M hok d) ?_
                        show PW 203 d (45, [some (pvR 0), some (pvI n1), some (pvI n2), some (pvI (M.1 (pvbs 10 + Int32.toNatClampNeg n1) 0))], [pvI 0], M) _
                        refine pw_if hT (c := 0 = 0) rfl rfl (fun c97_ => ?_) (fun c97_ => absurd (by decide) c97_)
                        refine pw_blk hT 1 (S' := (54, [some (pvR 0), some (pvI n1), some (pvI n2), some (pvI (M.1 (pvbs 10 + Int32.toNatClampNeg n1) 0))], [pvI (-12)], M)) rfl ⟨trivial, trivial⟩ ?_
                        exact pw_ret hT rfl (r := some (pvI (-12))) (M' := M) ⟨rfl, rfl⟩ ⟨⟨_, rfl, (zr_wide (show (-12) ≤ Int32.toInt (-12) ∧ Int32.toInt (-12) ≤ (-12) from (by decide)) (by decide) (by decide)), (by rw [if_neg c6_, if_neg c10_, if_neg c20_, if_neg c25_, if_pos c36_, if_neg c38_]; first | done | (rw [if_neg c38_]; done))⟩, rfl⟩
          · have b98_ : 1 ≤ Int32.toInt (M.1 (pvbs 10 + Int32.toNatClampNeg n1) 0) ∧ Int32.toInt (M.1 (pvbs 10 + Int32.toNatClampNeg n1) 0) ≤ 6 := (by have u0 := b35_; have u1 := (not_congr (zi_eq _ _)).mp c36_; have u2 := (show 0 ≤ Int32.toInt 0 ∧ Int32.toInt 0 ≤ 0 from (by decide)); omega)
            by_cases c99_ : (M.1 (pvbs 10 + Int32.toNatClampNeg n1) 0) = 1
            · refine pw_eqI c99_ ?_
              have b100_ : 1 ≤ Int32.toInt (M.1 (pvbs 10 + Int32.toNatClampNeg n1) 0) ∧ Int32.toInt (M.1 (pvbs 10 + Int32.toNatClampNeg n1) 0) ≤ 1 := (by have u0 := b98_; have u1 := (zi_eq _ _).mp c99_; have u2 := (show 1 ≤ Int32.toInt 1 ∧ Int32.toInt 1 ≤ 1 from (by decide)); omega)
              refine pw_blk hT 1 (S' := (42, [some (pvR 0), some (pvI n1), some (pvI n2), some (pvI (M.1 (pvbs 10 + Int32.toNatClampNeg n1) 0))], [pvI n2, pvI 1], M)) rfl ⟨trivial, trivial⟩ ?_
              by_cases c101_ : n2 = 0
              · refine pw_eqI c101_ ?_
                have b102_ : 0 ≤ Int32.toInt n2 ∧ Int32.toInt n2 ≤ 0 := (by have u0 := b13_; have u1 := (zi_eq _ _).mp c101_; have u2 := (show 0 ≤ Int32.toInt 0 ∧ Int32.toInt 0 ≤ 0 from (by decide)); omega)
                refine pw_callT hT (as := [pvI 1, pvI 0]) (lo1 := [some (pvI 1), some (pvI 0), none, none]) (d1 := d) (rest := []) rfl rfl rfl rfl rfl (fun h => absurd h (by decide)) (Nat.zero_le _) rfl rfl rfl (se_X3_isUnder_1_0 M hok d) ?_
                show PW 203 d (45, [some (pvR 0), some (pvI n1), some (pvI n2), some (pvI (M.1 (pvbs 10 + Int32.toNatClampNeg n1) 0))], [pvI 1], M) _
                refine pw_if hT (c := 1 = 0) rfl rfl (fun c108_ => absurd c108_ (by decide)) (fun c108_ => ?_)
                refine pw_blk hT 2 (S' := (54, [some (pvR 0), some (pvI n1), some (pvI n2), some (pvI (M.1 (pvbs 10 + Int32.toNatClampNeg n1) 0))], [pvI (M.1 (pvbs 10 + Int32.toNatClampNeg n1) 0)], M)) rfl ⟨trivial, trivial, trivial⟩ ?_
                exact pw_ret hT rfl (r := some (pvI (M.1 (pvbs 10 + Int32.toNatClampNeg n1) 0))) (M' := M) ⟨rfl, rfl⟩ ⟨⟨_, rfl, (zr_wide b100_ (by decide) (by decide)), (by rw [if_neg c6_, if_neg c10_, if_neg c20_, if_neg c25_, if_neg c36_, if_pos c99_, if_pos c101_]; first | done | (rw [if_pos c101_]; done))⟩, rfl⟩
              · have b109_ : 1 ≤ Int32.toInt n2 ∧ Int32.toInt n2 ≤ 6 := (by have u0 := b13_; have u1 := (not_congr (zi_eq _ _)).mp c101_; have u2 := (show 0 ≤ Int32.toInt 0 ∧ Int32.toInt 0 ≤ 0 from (by decide)); omega)
                by_cases c110_ : n2 = 1
                · refine pw_eqI c110_ ?_
                  have b111_ : 1 ≤ Int32.toInt n2 ∧ Int32.toInt n2 ≤ 1 := (by have u0 := b109_; have u1 := (zi_eq _ _).mp c110_; have u2 := (show 1 ≤ Int32.toInt 1 ∧ Int32.toInt 1 ≤ 1 from (by decide)); omega)
                  refine pw_callT hT (as := [pvI 1, pvI 1]) (lo1 := [some (pvI 1), some (pvI 1), none, none]) (d1 := d) (rest := []) rfl rfl rfl rfl rfl (fun h => absurd h (by decide)) (Nat.zero_le _) rfl rfl rfl (se_X3_isUnder_1_1 M hok d) ?_
                  show PW 203 d (45, [some (pvR 0), some (pvI n1), some (pvI n2), some (pvI (M.1 (pvbs 10 + Int32.toNatClampNeg n1) 0))], [pvI 1], M) _
                  refine pw_if hT (c := 1 = 0) rfl rfl (fun c117_ => absurd c117_ (by decide)) (fun c117_ => ?_)
                  refine pw_blk hT 2 (S' := (54, [some (pvR 0), some (pvI n1), some (pvI n2), some (pvI (M.1 (pvbs 10 + Int32.toNatClampNeg n1) 0))], [pvI (M.1 (pvbs 10 + Int32.toNatClampNeg n1) 0)], M)) rfl ⟨trivial, trivial, trivial⟩ ?_
                  exact pw_ret hT rfl (r := some (pvI (M.1 (pvbs 10 + Int32.toNatClampNeg n1) 0))) (M' := M) ⟨rfl, rfl⟩ ⟨⟨_, rfl, (zr_wide b100_ (by decide) (by decide)), (by rw [if_neg c6_, if_neg c10_, if_neg c20_, if_neg c25_, if_neg c36_, if_pos c99_, if_neg c101_, if_pos c110_]; first | done | (rw [if_pos c110_]; done))⟩, rfl⟩
                · have b118_ : 2 ≤ Int32.toInt n2 ∧ Int32.toInt n2 ≤ 6 := (by have u0 := b109_; have u1 := (not_congr (zi_eq _ _)).mp c110_; have u2 := (show 1 ≤ Int32.toInt 1 ∧ Int32.toInt 1 ≤ 1 from (by decide)); omega)
                  by_cases c119_ : n2 = 2
                  · refine pw_eqI c119_ ?_
                    have b120_ : 2 ≤ Int32.toInt n2 ∧ Int32.toInt n2 ≤ 2 := (by have u0 := b118_; have u1 := (zi_eq _ _).mp c119_; have u2 := (show 2 ≤ Int32.toInt 2 ∧ Int32.toInt 2 ≤ 2 from (by decide)); omega)
                    refine pw_callT hT (as := [pvI 1, pvI 2]) (lo1 := [some (pvI 1), some (pvI 2), none, none]) (d1 := d) (rest := []) rfl rfl rfl rfl rfl (fun h => absurd h (by decide)) (Nat.zero_le _) rfl rfl rfl (se_X3_isUnder_1_2 M hok d) ?_
                    show PW 203 d (45, [some (pvR 0), some (pvI n1), some (pvI n2), some (pvI (M.1 (pvbs 10 + Int32.toNatClampNeg n1) 0))], [pvI 0], M) _
                    refine pw_if hT (c := 0 = 0) rfl rfl (fun c126_ => ?_) (fun c126_ => absurd (by decide) c126_)
                    refine pw_blk hT 1 (S' := (54, [some (pvR 0), some (pvI n1), some (pvI n2), some (pvI (M.1 (pvbs 10 + Int32.toNatClampNeg n1) 0))], [pvI (-12)], M)) rfl ⟨trivial, trivial⟩ ?_
                    exact pw_ret hT rfl (r := some (pvI (-12))) (M' := M) ⟨rfl, rfl⟩ ⟨⟨_, rfl, (zr_wide (show (-12) ≤ Int32.toInt (-12) ∧ Int32.toInt (-12) ≤ (-12) from (by decide)) (by decide) (by decide)), (by rw [if_neg c6_, if_neg c10_, if_neg c20_, if_neg c25_, if_neg c36_, if_pos c99_, if_neg c101_, if_neg c110_]; first | done | (rw [if_neg c110_]; done))⟩, rfl⟩
                  · have b127_ : 3 ≤ Int32.toInt n2 ∧ Int32.toInt n2 ≤ 6 := (by have u0 := b118_; have u1 := (not_congr (zi_eq _ _)).mp c119_; have u2 := (show 2 ≤ Int32.toInt 2 ∧ Int32.toInt 2 ≤ 2 from (by decide)); omega)
                    by_cases c128_ : n2 = 3
                    · refine pw_eqI c128_ ?_
                      have b129_ : 3 ≤ Int32.toInt n2 ∧ Int32.toInt n2 ≤ 3 := (by have u0 := b127_; have u1 := (zi_eq _ _).mp c128_; have u2 := (show 3 ≤ Int32.toInt 3 ∧ Int32.toInt 3 ≤ 3 from (by decide)); omega)
                      refine pw_callT hT (as := [pvI 1, pvI 3]) (lo1 := [some (pvI 1), some (pvI 3), none, none]) (d1 := d) (rest := []) rfl rfl rfl rfl rfl (fun h => absurd h (by decide)) (Nat.zero_le _) rfl rfl rfl (se_X3_isUnder_1_3 M hok d) ?_
                      show PW 203 d (45, [some (pvR 0), some (pvI n1), some (pvI n2), some (pvI (M.1 (pvbs 10 + Int32.toNatClampNeg n1) 0))], [pvI 0], M) _
                      refine pw_if hT (c := 0 = 0) rfl rfl (fun c135_ => ?_) (fun c135_ => absurd (by decide) c135_)
                      refine pw_blk hT 1 (S' := (54, [some (pvR 0), some (pvI n1), some (pvI n2), some (pvI (M.1 (pvbs 10 + Int32.toNatClampNeg n1) 0))], [pvI (-12)], M)) rfl ⟨trivial, trivial⟩ ?_
                      exact pw_ret hT rfl (r := some (pvI (-12))) (M' := M) ⟨rfl, rfl⟩ ⟨⟨_, rfl, (zr_wide (show (-12) ≤ Int32.toInt (-12) ∧ Int32.toInt (-12) ≤ (-12) from (by decide)) (by decide) (by decide)), (by rw [if_neg c6_, if_neg c10_, if_neg c20_, if_neg c25_, if_neg c36_, if_pos c99_, if_neg c101_, if_neg c110_]; first | done | (rw [if_neg c110_]; done))⟩, rfl⟩
                    · have b136_ : 4 ≤ Int32.toInt n2 ∧ Int32.toInt n2 ≤ 6 := (by have u0 := b127_; have u1 := (not_congr (zi_eq _ _)).mp c128_; have u2 := (show 3 ≤ Int32.toInt 3 ∧ Int32.toInt 3 ≤ 3 from (by decide)); omega)
                      by_cases c137_ : n2 = 4
                      · refine pw_eqI c137_ ?_
                        have b138_ : 4 ≤ Int32.toInt n2 ∧ Int32.toInt n2 ≤ 4 := (by have u0 := b136_; have u1 := (zi_eq _ _).mp c137_; have u2 := (show 4 ≤ Int32.toInt 4 ∧ Int32.toInt 4 ≤ 4 from (by decide)); omega)
                        refine pw_callT hT (as := [pvI 1, pvI 4]) (lo1 := [some (pvI 1), some (pvI 4), none, none]) (d1 := d) (rest := []) rfl rfl rfl rfl rfl (fun h => absurd h (by decide)) (Nat.zero_le _) rfl rfl rfl (se_X3_isUnder_1_4 M hok d) ?_
                        show PW 203 d (45, [some (pvR 0), some (pvI n1), some (pvI n2), some (pvI (M.1 (pvbs 10 + Int32.toNatClampNeg n1) 0))], [pvI 0], M) _
                        refine pw_if hT (c := 0 = 0) rfl rfl (fun c144_ => ?_) (fun c144_ => absurd (by decide) c144_)
                        refine pw_blk hT 1 (S' := (54, [some (pvR 0), some (pvI n1), some (pvI n2), some (pvI (M.1 (pvbs 10 + Int32.toNatClampNeg n1) 0))], [pvI (-12)], M)) rfl ⟨trivial, trivial⟩ ?_
                        exact pw_ret hT rfl (r := some (pvI (-12))) (M' := M) ⟨rfl, rfl⟩ ⟨⟨_, rfl, (zr_wide (show (-12) ≤ Int32.toInt (-12) ∧ Int32.toInt (-12) ≤ (-12) from (by decide)) (by decide) (by decide)), (by rw [if_neg c6_, if_neg c10_, if_neg c20_, if_neg c25_, if_neg c36_, if_pos c99_, if_neg c101_, if_neg c110_]; first | done | (rw [if_neg c110_]; done))⟩, rfl⟩
                      · have b145_ : 5 ≤ Int32.toInt n2 ∧ Int32.toInt n2 ≤ 6 := (by have u0 := b136_; have u1 := (not_congr (zi_eq _ _)).mp c137_; have u2 := (show 4 ≤ Int32.toInt 4 ∧ Int32.toInt 4 ≤ 4 from (by decide)); omega)
                        by_cases c146_ : n2 = 5
                        · refine pw_eqI c146_ ?_
                          have b147_ : 5 ≤ Int32.toInt n2 ∧ Int32.toInt n2 ≤ 5 := (by have u0 := b145_; have u1 := (zi_eq _ _).mp c146_; have u2 := (show 5 ≤ Int32.toInt 5 ∧ Int32.toInt 5 ≤ 5 from (by decide)); omega)
                          refine pw_callT hT (as := [pvI 1, pvI 5]) (lo1 := [some (pvI 1), some (pvI 5), none, none]) (d1 := d) (rest := []) rfl rfl rfl rfl rfl (fun h => absurd h (by decide)) (Nat.zero_le _) rfl rfl rfl (se_X3_isUnder_1_5 M hok d) ?_
                          show PW 203 d (45, [some (pvR 0), some (pvI n1), some (pvI n2), some (pvI (M.1 (pvbs 10 + Int32.toNatClampNeg n1) 0))], [pvI 0], M) _
                          refine pw_if hT (c := 0 = 0) rfl rfl (fun c153_ => ?_) (fun c153_ => absurd (by decide) c153_)
                          refine pw_blk hT 1 (S' := (54, [some (pvR 0), some (pvI n1), some (pvI n2), some (pvI (M.1 (pvbs 10 + Int32.toNatClampNeg n1) 0))], [pvI (-12)], M)) rfl ⟨trivial, trivial⟩ ?_
                          exact pw_ret hT rfl (r := some (pvI (-12))) (M' := M) ⟨rfl, rfl⟩ ⟨⟨_, rfl, (zr_wide (show (-12) ≤ Int32.toInt (-12) ∧ Int32.toInt (-12) ≤ (-12) from (by decide)) (by decide) (by decide)), (by rw [if_neg c6_, if_neg c10_, if_neg c20_, if_neg c25_, if_neg c36_, if_pos c99_, if_neg c101_, if_neg c110_]; first | done | (rw [if_neg c110_]; done))⟩, rfl⟩
                        · have b154_ : 6 ≤ Int32.toInt n2 ∧ Int32.toInt n2 ≤ 6 := (by have u0 := b145_; have u1 := (not_congr (zi_eq _ _)).mp c146_; have u2 := (show 5 ≤ Int32.toInt 5 ∧ Int32.toInt 5 ≤ 5 from (by decide)); omega)
                          refine pw_eqI ((zi_eq _ (6)).mpr (by have u0 := b154_; have u1 : Int32.toInt (6) = 6 := (by decide); omega)) ?_
                          refine pw_callT hT (as := [pvI 1, pvI 6]) (lo1 := [some (pvI 1), some (pvI 6), none, none]) (d1 := d) (rest := []) rfl rfl rfl rfl rfl (fun h => absurd h (by decide)) (Nat.zero_le _) rfl rfl rfl (se_X3_isUnder_1_6 M hok d) ?_
                          show PW 203 d (45, [some (pvR 0), some (pvI n1), some (pvI n2), some (pvI (M.1 (pvbs 10 + Int32.toNatClampNeg n1) 0))], [pvI 0], M) _
                          refine pw_if hT (c := 0 = 0) rfl rfl (fun c160_ => ?_) (fun c160_ => absurd (by decide) c160_)
                          refine pw_blk hT 1 (S' := (54, [some (pvR 0), some (pvI n1), some (pvI n2), some (pvI (M.1 (pvbs 10 + Int32.toNatClampNeg n1) 0))], [pvI (-12)], M)) rfl ⟨trivial, trivial⟩ ?_
                          exact pw_ret hT rfl (r := some (pvI (-12))) (M' := M) ⟨rfl, rfl⟩ ⟨⟨_, rfl, (zr_wide (show (-12) ≤ Int32.toInt (-12) ∧ Int32.toInt (-12) ≤ (-12) from (by decide)) (by decide) (by decide)), (by rw [if_neg c6_, if_neg c10_, if_neg c20_, if_neg c25_, if_neg c36_, if_pos c99_, if_neg c101_, if_neg c110_]; first | done | (rw [if_neg c110_]; done))⟩, rfl⟩
            · have b161_ : 2 ≤ Int32.toInt (M.1 (pvbs 10 + Int32.toNatClampNeg n1) 0) ∧ Int32.toInt (M.1 (pvbs 10 + Int32.toNatClampNeg n1) 0) ≤ 6 := (by have u0 := b98_; have u1 := (not_congr (zi_eq _ _)).mp c99_; have u2 := (show 1 ≤ Int32.toInt 1 ∧ Int32.toInt 1 ≤ 1 from (by decide)); omega)
              by_cases c162_ : (M.1 (pvbs 10 + Int32.toNatClampNeg n1) 0) = 2
              · refine pw_eqI c162_ ?_
                have b163_ : 2 ≤ Int32.toInt (M.1 (pvbs 10 + Int32.toNatClampNeg n1) 0) ∧ Int32.toInt (M.1 (pvbs 10 + Int32.toNatClampNeg n1) 0) ≤ 2 := (by have u0 := b161_; have u1 := (zi_eq _ _).mp c162_; have u2 := (show 2 ≤ Int32.toInt 2 ∧ Int32.toInt 2 ≤ 2 from (by decide)); omega)
                refine pw_blk hT 1 (S' := (42, [some (pvR 0), some (pvI n1), some (pvI n2), some (pvI (M.1 (pvbs 10 + Int32.toNatClampNeg n1) 0))], [pvI n2, pvI 2], M)) rfl ⟨trivial, trivial⟩ ?_
                by_cases c164_ : n2 = 0
                · refine pw_eqI c164_ ?_
                  have b165_ : 0 ≤ Int32.toInt n2 ∧ Int32.toInt n2 ≤ 0 := (by have u0 := b13_; have u1 := (zi_eq _ _).mp c164_; have u2 := (show 0 ≤ Int32.toInt 0 ∧ Int32.toInt 0 ≤ 0 from (by decide)); omega)
                  refine pw_callT hT (as := [pvI 2, pvI 0]) (lo1 := [some (pvI 2), some (pvI 0), none, none]) (d1 := d) (rest := []) rfl rfl rfl rfl rfl (fun h => absurd h (by decide)) (Nat.zero_le _) rfl rfl rfl (se_X3_isUnder_2_0 M hok d) ?_
                  show PW 203 d (45, [some (pvR 0), some (pvI n1), some (pvI n2), some (pvI (M.1 (pvbs 10 + Int32.toNatClampNeg n1) 0))], [pvI 1], M) _
                  refine pw_if hT (c := 1 = 0) rfl rfl (fun c171_ => absurd c171_ (by decide)) (fun c171_ => ?_)
                  refine pw_blk hT 2 (S' := (54, [some (pvR 0), some (pvI n1), some (pvI n2), some (pvI (M.1 (pvbs 10 + Int32.toNatClampNeg n1) 0))], [pvI (M.1 (pvbs 10 + Int32.toNatClampNeg n1) 0)], M)) rfl ⟨trivial, trivial, trivial⟩ ?_
                  exact pw_ret hT rfl (r := some (pvI (M.1 (pvbs 10 + Int32.toNatClampNeg n1) 0))) (M' := M) ⟨rfl, rfl⟩ ⟨⟨_, rfl, (zr_wide b163_ (by decide) (by decide)), (by rw [if_neg c6_, if_neg c10_, if_neg c20_, if_neg c25_, if_neg c36_, if_neg c99_, if_pos c162_, if_pos c164_]; first | done | (rw [if_pos c164_]; done))⟩, rfl⟩
                · have b172_ : 1 ≤ Int32.toInt n2 ∧ Int32.toInt n2 ≤ 6 := (by have u0 := b13_; have u1 := (not_congr (zi_eq _ _)).mp c164_; have u2 := (show 0 ≤ Int32.toInt 0 ∧ Int32.toInt 0 ≤ 0 from (by decide)); omega)
                  by_cases c173_ : n2 = 1
                  · refine pw_eqI c173_ ?_
                    have b174_ : 1 ≤ Int32.toInt n2 ∧ Int32.toInt n2 ≤ 1 := (by have u0 := b172_; have u1 := (zi_eq _ _).mp c173_; have u2 := (show 1 ≤ Int32.toInt 1 ∧ Int32.toInt 1 ≤ 1 from (by decide)); omega)
                    refine pw_callT hT (as := [pvI 2, pvI 1]) (lo1 := [some (pvI 2), some (pvI 1), none, none]) (d1 := d) (rest := []) rfl rfl rfl rfl rfl (fun h => absurd h (by decide)) (Nat.zero_le _) rfl rfl rfl (se_X3_isUnder_2_1 M hok d) ?_
                    show PW 203 d (45, [some (pvR 0), some (pvI n1), some (pvI n2), some (pvI (M.1 (pvbs 10 + Int32.toNatClampNeg n1) 0))], [pvI 0], M) _
                    refine pw_if hT (c := 0 = 0) rfl rfl (fun c180_ => ?_) (fun c180_ => absurd (by decide) c180_)
                    refine pw_blk hT 1 (S' := (54, [some (pvR 0), some (pvI n1), some (pvI n2), some (pvI (M.1 (pvbs 10 + Int32.toNatClampNeg n1) 0))], [pvI (-12)], M)) rfl ⟨trivial, trivial⟩ ?_
                    exact pw_ret hT rfl (r := some (pvI (-12))) (M' := M) ⟨rfl, rfl⟩ ⟨⟨_, rfl, (zr_wide (show (-12) ≤ Int32.toInt (-12) ∧ Int32.toInt (-12) ≤ (-12) from (by decide)) (by decide) (by decide)), (by rw [if_neg c6_, if_neg c10_, if_neg c20_, if_neg c25_, if_neg c36_, if_neg c99_, if_pos c162_, if_neg c164_, if_pos c173_]; first | done | (rw [if_pos c173_]; done))⟩, rfl⟩
                  · have b181_ : 2 ≤ Int32.toInt n2 ∧ Int32.toInt n2 ≤ 6 := (by have u0 := b172_; have u1 := (not_congr (zi_eq _ _)).mp c173_; have u2 := (show 1 ≤ Int32.toInt 1 ∧ Int32.toInt 1 ≤ 1 from (by decide)); omega)
                    by_cases c182_ : n2 = 2
                    · refine pw_eqI c182_ ?_
                      have b183_ : 2 ≤ Int32.toInt n2 ∧ Int32.toInt n2 ≤ 2 := (by have u0 := b181_; have u1 := (zi_eq _ _).mp c182_; have u2 := (show 2 ≤ Int32.toInt 2 ∧ Int32.toInt 2 ≤ 2 from (by decide)); omega)
                      refine pw_callT hT (as := [pvI 2, pvI 2]) (lo1 := [some (pvI 2), some (pvI 2), none, none]) (d1 := d) (rest := []) rfl rfl rfl rfl rfl (fun h => absurd h (by decide)) (Nat.zero_le _) rfl rfl rfl (se_X3_isUnder_2_2 M hok d) ?_
                      show PW 203 d (45, [some (pvR 0), some (pvI n1), some (pvI n2), some (pvI (M.1 (pvbs 10 + Int32.toNatClampNeg n1) 0))], [pvI 1], M) _
                      refine pw_if hT (c := 1 = 0) rfl rfl (fun c189_ => absurd c189_ (by decide)) (fun c189_ => ?_)
                      refine pw_blk hT 2 (S' := (54, [some (pvR 0), some (pvI n1), some (pvI n2), some (pvI (M.1 (pvbs 10 + Int32.toNatClampNeg n1) 0))], [pvI (M.1 (pvbs 10 + Int32.toNatClampNeg n1) 0)], M)) rfl ⟨trivial, trivial, trivial⟩ ?_
                      exact pw_ret hT rfl (r := some (pvI (M.1 (pvbs 10 + Int32.toNatClampNeg n1) 0))) (M' := M) ⟨rfl, rfl⟩ ⟨⟨_, rfl, (zr_wide b163_ (by decide) (by decide)), (by rw [if_neg c6_, if_neg c10_, if_neg c20_, if_neg c25_, if_neg c36_, if_neg c99_, if_pos c162_, if_neg c164_, if_neg c173_, if_pos c182_]; first | done | (rw [if_pos c182_]; done))⟩, rfl⟩
                    · have b190_ : 3 ≤ Int32.toInt n2 ∧ Int32.toInt n2 ≤ 6 := (by have u0 := b181_; have u1 := (not_congr (zi_eq _ _)).mp c182_; have u2 := (show 2 ≤ Int32.toInt 2 ∧ Int32.toInt 2 ≤ 2 from (by decide)); omega)
                      by_cases c191_ : n2 = 3
                      · refine pw_eqI c191_ ?_
                        have b192_ : 3 ≤ Int32.toInt n2 ∧ Int32.toInt n2 ≤ 3 := (by have u0 := b190_; have u1 := (zi_eq _ _).mp c191_; have u2 := (show 3 ≤ Int32.toInt 3 ∧ Int32.toInt 3 ≤ 3 from (by decide)); omega)
                        refine pw_callT hT (as := [pvI 2, pvI 3]) (lo1 := [some (pvI 2), some (pvI 3), none, none]) (d1 := d) (rest := []) rfl rfl rfl rfl rfl (fun h => absurd h (by decide)) (Nat.zero_le _) rfl rfl rfl (se_X3_isUnder_2_3 M hok d) ?_
                        show PW 203 d (45, [some (pvR 0), some (pvI n1), some (pvI n2), some (pvI (M.1 (pvbs 10 + Int32.toNatClampNeg n1) 0))], [pvI 0], M) _
                        refine pw_if hT (c := 0 = 0) rfl rfl (fun c198_ => ?_) (fun c198_ => absurd (by decide) c198_)
                        refine pw_blk hT 1 (S' := (54, [some (pvR 0), some (pvI n1), some (pvI n2), some (pvI (M.1 (pvbs 10 + Int32.toNatClampNeg n1) 0))], [pvI (-12)], M)) rfl ⟨trivial, trivial⟩ ?_
                        exact pw_ret hT rfl (r := some (pvI (-12))) (M' := M) ⟨rfl, rfl⟩ ⟨⟨_, rfl, (zr_wide (show (-12) ≤ Int32.toInt (-12) ∧ Int32.toInt (-12) ≤ (-12) from (by decide)) (by decide) (by decide)), (by rw [if_neg c6_, if_neg c10_, if_neg c20_, if_neg c25_, if_neg c36_, if_neg c99_, if_pos c162_, if_neg c164_, if_neg c173_, if_neg c182_]; first | done | (rw [if_neg c182_]; done))⟩, rfl⟩
                      · have b199_ : 4 ≤ Int32.toInt n2 ∧ Int32.toInt n2 ≤ 6 := (by have u0 := b190_; have u1 := (not_congr (zi_eq _ _)).mp c191_; have u2 := (show 3 ≤ Int32.toInt 3 ∧ Int32.toInt 3 ≤ 3 from (by decide)); omega)
                        by_cases c200_ : n2 = 4
                        · refine pw_eqI c200_ ?_
                          have b201_ : 4 ≤ Int32.toInt n2 ∧ Int32.toInt n2 ≤ 4 := (by have u0 := b199_; have u1 := (zi_eq _ _).mp c200_; have u2 := (show 4 ≤ Int32.toInt 4 ∧ Int32.toInt 4 ≤ 4 from (by decide)); omega)
                          refine pw_callT hT (as := [pvI 2, pvI 4]) (lo1 := [some (pvI 2), some (pvI 4), none, none]) (d1 := d) (rest := []) rfl rfl rfl rfl rfl (fun h => absurd h (by decide)) (Nat.zero_le _) rfl rfl rfl (se_X3_isUnder_2_4 M hok d) ?_
                          show PW 203 d (45, [some (pvR 0), some (pvI n1), some (pvI n2), some (pvI (M.1 (pvbs 10 + Int32.toNatClampNeg n1) 0))], [pvI 0], M) _
                          refine pw_if hT (c := 0 = 0) rfl rfl (fun c207_ => ?_) (fun c207_ => absurd (by decide) c207_)
                          refine pw_blk hT 1 (S' := (54, [some (pvR 0), some (pvI n1), some (pvI n2), some (pvI (M.1 (pvbs 10 + Int32.toNatClampNeg n1) 0))], [pvI (-12)], M)) rfl ⟨trivial, trivial⟩ ?_
                          exact pw_ret hT rfl (r := some (pvI (-12))) (M' := M) ⟨rfl, rfl⟩ ⟨⟨_, rfl, (zr_wide (show (-12) ≤ Int32.toInt (-12) ∧ Int32.toInt (-12) ≤ (-12) from (by decide)) (by decide) (by decide)), (by rw [if_neg c6_, if_neg c10_, if_neg c20_, if_neg c25_, if_neg c36_, if_neg c99_, if_pos c162_, if_neg c164_, if_neg c173_, if_neg c182_]; first | done | (rw [if_neg c182_]; done))⟩, rfl⟩
                        · have b208_ : 5 ≤ Int32.toInt n2 ∧ Int32.toInt n2 ≤ 6 := (by have u0 := b199_; have u1 := (not_congr (zi_eq _ _)).mp c200_; have u2 := (show 4 ≤ Int32.toInt 4 ∧ Int32.toInt 4 ≤ 4 from (by decide)); omega)
                          by_cases c209_ : n2 = 5
                          · refine pw_eqI c209_ ?_
                            have b210_ : 5 ≤ Int32.toInt n2 ∧ Int32.toInt n2 ≤ 5 := (by have u0 := b208_; have u1 := (zi_eq _ _).mp c209_; have u2 := (show 5 ≤ Int32.toInt 5 ∧ Int32.toInt 5 ≤ 5 from (by decide)); omega)
                            refine pw_callT hT (as := [pvI 2, pvI 5]) (lo1 := [some (pvI 2), some (pvI 5), none, none]) (d1 := d) (rest := []) rfl rfl rfl rfl rfl (fun h => absurd h (by decide)) (Nat.zero_le _) rfl rfl rfl (se_X3_isUnder_2_5 M hok d) ?_
                            show PW 203 d (45, [some (pvR 0), some (pvI n1), some (pvI n2), some (pvI (M.1 (pvbs 10 + Int32.toNatClampNeg n1) 0))], [pvI 0], M) _
                            refine pw_if hT (c := 0 = 0) rfl rfl (fun c216_ => ?_) (fun c216_ => absurd (by decide) c216_)
                            refine pw_blk hT 1 (S' := (54, [some (pvR 0), some (pvI n1), some (pvI n2), some (pvI (M.1 (pvbs 10 + Int32.toNatClampNeg n1) 0))], [pvI (-12)], M)) rfl ⟨trivial, trivial⟩ ?_
                            exact pw_ret hT rfl (r := some (pvI (-12))) (M' := M) ⟨rfl, rfl⟩ ⟨⟨_, rfl, (zr_wide (show (-12) ≤ Int32.toInt (-12) ∧ Int32.toInt (-12) ≤ (-12) from (by decide)) (by decide) (by decide)), (by rw [if_neg c6_, if_neg c10_, if_neg c20_, if_neg c25_, if_neg c36_, if_neg c99_, if_pos c162_, if_neg c164_, if_neg c173_, if_neg c182_]; first | done | (rw [if_neg c182_]; done))⟩, rfl⟩
                          · have b217_ : 6 ≤ Int32.toInt n2 ∧ Int32.toInt n2 ≤ 6 := (by have u0 := b208_; have u1 := (not_congr (zi_eq _ _)).mp c209_; have u2 := (show 5 ≤ Int32.toInt 5 ∧ Int32.toInt 5 ≤ 5 from (by decide)); omega)
                            refine pw_eqI ((zi_eq _ (6)).mpr (by have u0 := b217_; have u1 : Int32.toInt (6) = 6 := (by decide); omega)) ?_
                            refine pw_callT hT (as := [pvI 2, pvI 6]) (lo1 := [some (pvI 2), some (pvI 6), none, none]) (d1 := d) (rest := []) rfl rfl rfl rfl rfl (fun h => absurd h (by decide)) (Nat.zero_le _) rfl rfl rfl (se_X3_isUnder_2_6 M hok d) ?_
                            show PW 203 d (45, [some (pvR 0), some (pvI n1), some (pvI n2), some (pvI (M.1 (pvbs 10 + Int32.toNatClampNeg n1) 0))], [pvI 0], M) _
                            refine pw_if hT (c := 0 = 0) rfl rfl (fun c223_ => ?_) (fun c223_ => absurd (by decide) c223_)
                            refine pw_blk hT 1 (S' := (54, [some (pvR 0), some (pvI n1), some (pvI n2), some (pvI (M.1 (pvbs 10 + Int32.toNatClampNeg n1) 0))], [pvI (-12)], M)) rfl ⟨trivial, trivial⟩ ?_
                            exact pw_ret hT rfl (r := some (pvI (-12))) (M' := M) ⟨rfl, rfl⟩ ⟨⟨_, rfl, (zr_wide (show (-12) ≤ Int32.toInt (-12) ∧ Int32.toInt (-12) ≤ (-12) from (by decide)) (by decide) (by decide)), (by rw [if_neg c6_, if_neg c10_, if_neg c20_, if_neg c25_, if_neg c36_, if_neg c99_, if_pos c162_, if_neg c164_, if_neg c173_, if_neg c182_]; first | done | (rw [if_neg c182_]; done))⟩, rfl⟩
              · have b224_ : 3 ≤ Int32.toInt (M.1 (pvbs 10 + Int32.toNatClampNeg n1) 0) ∧ Int32.toInt (M.1 (pvbs 10 + Int32.toNatClampNeg n1) 0) ≤ 6 := (by have u0 := b161_; have u1 := (not_congr (zi_eq _ _)).mp c162_; have u2 := (show 2 ≤ Int32.toInt 2 ∧ Int32.toInt 2 ≤ 2 from (by decide)); omega)
                by_cases c225_ : (M.1 (pvbs 10 + Int32.toNatClampNeg n1) 0) = 3
                · refine pw_eqI c225_ ?_
                  have b226_ : 3 ≤ Int32.toInt (M.1 (pvbs 10 + Int32.toNatClampNeg n1) 0) ∧ Int32.toInt (M.1 (pvbs 10 + Int32.toNatClampNeg n1) 0) ≤ 3 := (by have u0 := b224_; have u1 := (zi_eq _ _).mp c225_; have u2 := (show 3 ≤ Int32.toInt 3 ∧ Int32.toInt 3 ≤ 3 from (by decide)); omega)
                  refine pw_blk hT 1 (S' := (42, [some (pvR 0), some (pvI n1), some (pvI n2), some (pvI (M.1 (pvbs 10 + Int32.toNatClampNeg n1) 0))], [pvI n2, pvI 3], M)) rfl ⟨trivial, trivial⟩ ?_
                  by_cases c227_ : n2 = 0
                  · refine pw_eqI c227_ ?_
                    have b228_ : 0 ≤ Int32.toInt n2 ∧ Int32.toInt n2 ≤ 0 := (by have u0 := b13_; have u1 := (zi_eq _ _).mp c227_; have u2 := (show 0 ≤ Int32.toInt 0 ∧ Int32.toInt 0 ≤ 0 from (by decide)); omega)
                    refine pw_callT hT (as := [pvI 3, pvI 0]) (lo1 := [some (pvI 3), some (pvI 0), none, none]) (d1 := d) (rest := []) rfl rfl rfl rfl rfl (fun h => absurd h (by decide)) (Nat.zero_le _) rfl rfl rfl (se_X3_isUnder_3_0 M hok d) ?_
                    show PW 203 d (45, [some (pvR 0), some (pvI n1), some (pvI n2), some (pvI (M.1 (pvbs 10 + Int32.toNatClampNeg n1) 0))], [pvI 1], M) _
                    refine pw_if hT (c := 1 = 0) rfl rfl (fun c234_ => absurd c234_ (by decide)) (fun c234_ => ?_)
                    refine pw_blk hT 2 (S' := (54, [some (pvR 0), some (pvI n1), some (pvI n2), some (pvI (M.1 (pvbs 10 + Int32.toNatClampNeg n1) 0))], [pvI (M.1 (pvbs 10 + Int32.toNatClampNeg n1) 0)], M)) rfl ⟨trivial, trivial, trivial⟩ ?_
                    exact pw_ret hT rfl (r := some (pvI (M.1 (pvbs 10 + Int32.toNatClampNeg n1) 0))) (M' := M) ⟨rfl, rfl⟩ ⟨⟨_, rfl, (zr_wide b226_ (by decide) (by decide)), (by rw [if_neg c6_, if_neg c10_, if_neg c20_, if_neg c25_, if_neg c36_, if_neg c99_, if_neg c162_, if_pos c225_, if_pos c227_]; first | done | (rw [if_pos c227_]; done))⟩, rfl⟩
                  · have b235_ : 1 ≤ Int32.toInt n2 ∧ Int32.toInt n2 ≤ 6 := (by have u0 := b13_; have u1 := (not_congr (zi_eq _ _)).mp c227_; have u2 := (show 0 ≤ Int32.toInt 0 ∧ Int32.toInt 0 ≤ 0 from (by decide)); omega)
                    by_cases c236_ : n2 = 1
                    · refine pw_eqI c236_ ?_
                      have b237_ : 1 ≤ Int32.toInt n2 ∧ Int32.toInt n2 ≤ 1 := (by have u0 := b235_; have u1 := (zi_eq _ _).mp c236_; have u2 := (show 1 ≤ Int32.toInt 1 ∧ Int32.toInt 1 ≤ 1 from (by decide)); omega)
                      refine pw_callT hT (as := [pvI 3, pvI 1]) (lo1 := [some (pvI 3), some (pvI 1), none, none]) (d1 := d) (rest := []) rfl rfl rfl rfl rfl (fun h => absurd h (by decide)) (Nat.zero_le _) rfl rfl rfl (se_X3_isUnder_3_1 M hok d) ?_
                      show PW 203 d (45, [some (pvR 0), some (pvI n1), some (pvI n2), some (pvI (M.1 (pvbs 10 + Int32.toNatClampNeg n1) 0))], [pvI 0], M) _
                      refine pw_if hT (c := 0 = 0) rfl rfl (fun c243_ => ?_) (fun c243_ => absurd (by decide) c243_)
                      refine pw_blk hT 1 (S' := (54, [some (pvR 0), some (pvI n1), some (pvI n2), some (pvI (M.1 (pvbs 10 + Int32.toNatClampNeg n1) 0))], [pvI (-12)], M)) rfl ⟨trivial, trivial⟩ ?_
                      exact pw_ret hT rfl (r := some (pvI (-12))) (M' := M) ⟨rfl, rfl⟩ ⟨⟨_, rfl, (zr_wide (show (-12) ≤ Int32.toInt (-12) ∧ Int32.toInt (-12) ≤ (-12) from (by decide)) (by decide) (by decide)), (by rw [if_neg c6_, if_neg c10_, if_neg c20_, if_neg c25_, if_neg c36_, if_neg c99_, if_neg c162_, if_pos c225_, if_neg c227_, if_pos c236_]; first | done | (rw [if_pos c236_]; done))⟩, rfl⟩
                    · have b244_ : 2 ≤ Int32.toInt n2 ∧ Int32.toInt n2 ≤ 6 := (by have u0 := b235_; have u1 := (not_congr (zi_eq _ _)).mp c236_; have u2 := (show 1 ≤ Int32.toInt 1 ∧ Int32.toInt 1 ≤ 1 from (by decide)); omega)
                      by_cases c245_ : n2 = 2
                      · refine pw_eqI c245_ ?_
                        have b246_ : 2 ≤ Int32.toInt n2 ∧ Int32.toInt n2 ≤ 2 := (by have u0 := b244_; have u1 := (zi_eq _ _).mp c245_; have u2 := (show 2 ≤ Int32.toInt 2 ∧ Int32.toInt 2 ≤ 2 from (by decide)); omega)
                        refine pw_callT hT (as := [pvI 3, pvI 2]) (lo1 := [some (pvI 3), some (pvI 2), none, none]) (d1 := d) (rest := []) rfl rfl rfl rfl rfl (fun h => absurd h (by decide)) (Nat.zero_le _) rfl rfl rfl (se_X3_isUnder_3_2 M hok d) ?_
                        show PW 203 d (45, [some (pvR 0), some (pvI n1), some (pvI n2), some (pvI (M.1 (pvbs 10 + Int32.toNatClampNeg n1) 0))], [pvI 0], M) _
                        refine pw_if hT (c := 0 = 0) rfl rfl (fun c252_ => ?_) (fun c252_ => absurd (by decide) c252_)
                        refine pw_blk hT 1 (S' := (54, [some (pvR 0), some (pvI n1), some (pvI n2), some (pvI (M.1 (pvbs 10 + Int32.toNatClampNeg n1) 0))], [pvI (-12)], M)) rfl ⟨trivial, trivial⟩ ?_
                        exact pw_ret hT rfl (r := some (pvI (-12))) (M' := M) ⟨rfl, rfl⟩ ⟨⟨_, rfl, (zr_wide (show (-12) ≤ Int32.toInt (-12) ∧ Int32.toInt (-12) ≤ (-12) from (by decide)) (by decide) (by decide)), (by rw [if_neg c6_, if_neg c10_, if_neg c20_, if_neg c25_, if_neg c36_, if_neg c99_, if_neg c162_, if_pos c225_, if_neg c227_, if_neg c236_, if_pos c245_]; first | done | (rw [if_pos c245_]; done))⟩, rfl⟩
                      · have b253_ : 3 ≤ Int32.toInt n2 ∧ Int32.toInt n2 ≤ 6 := (by have u0 := b244_; have u1 := (not_congr (zi_eq _ _)).mp c245_; have u2 := (show 2 ≤ Int32.toInt 2 ∧ Int32.toInt 2 ≤ 2 from (by decide)); omega)
                        by_cases c254_ : n2 = 3
                        · refine pw_eqI c254_ ?_
                          have b255_ : 3 ≤ Int32.toInt n2 ∧ Int32.toInt n2 ≤ 3 := (by have u0 := b253_; have u1 := (zi_eq _ _).mp c254_; have u2 := (show 3 ≤ Int32.toInt 3 ∧ Int32.toInt 3 ≤ 3 from (by decide)); omega)
                          refine pw_callT hT (as := [pvI 3, pvI 3]) (lo1 := [some (pvI 3), some (pvI 3), none, none]) (d1 := d) (rest := []) rfl rfl rfl rfl rfl (fun h => absurd h (by decide)) (Nat.zero_le _) rfl rfl rfl (se_X3_isUnder_3_3 M hok d) ?_
                          show PW 203 d (45, [some (pvR 0), some (pvI n1), some (pvI n2), some (pvI (M.1 (pvbs 10 + Int32.toNatClampNeg n1) 0))], [pvI 1], M) _
                          refine pw_if hT (c := 1 = 0) rfl rfl (fun c261_ => absurd c261_ (by decide)) (fun c261_ => ?_)
                          refine pw_blk hT 2 (S' := (54, [some (pvR 0), some (pvI n1), some (pvI n2), some (pvI (M.1 (pvbs 10 + Int32.toNatClampNeg n1) 0))], [pvI (M.1 (pvbs 10 + Int32.toNatClampNeg n1) 0)], M)) rfl ⟨trivial, trivial, trivial⟩ ?_
                          exact pw_ret hT rfl (r := some (pvI (M.1 (pvbs 10 + Int32.toNatClampNeg n1) 0))) (M' := M) ⟨rfl, rfl⟩ ⟨⟨_, rfl, (zr_wide b226_ (by decide) (by decide)), (by rw [if_neg c6_, if_neg c10_, if_neg c20_, if_neg c25_, if_neg c36_, if_neg c99_, if_neg c162_, if_pos c225_, if_neg c227_, if_neg c236_, if_neg c245_, if_pos c254_]; first | done | (rw [if_pos c254_]; done))⟩, rfl⟩
                        · have b262_ : 4 ≤ Int32.toInt n2 ∧ Int32.toInt n2 ≤ 6 := (by have u0 := b253_; have u1 := (not_congr (zi_eq _ _)).mp c254_; have u2 := (show 3 ≤ Int32.toInt 3 ∧ Int32.toInt 3 ≤ 3 from (by decide)); omega)
                          by_cases c263_ : n2 = 4
                          · refine pw_eqI c263_ ?_
                            have b264_ : 4 ≤ Int32.toInt n2 ∧ Int32.toInt n2 ≤ 4 := (by have u0 := b262_; have u1 := (zi_eq _ _).mp c263_; have u2 := (show 4 ≤ Int32.toInt 4 ∧ Int32.toInt 4 ≤ 4 from (by decide)); omega)
                            refine pw_callT hT (as := [pvI 3, pvI 4]) (lo1 := [some (pvI 3), some (pvI 4), none, none]) (d1 := d) (rest := []) rfl rfl rfl rfl rfl (fun h => absurd h (by decide)) (Nat.zero_le _) rfl rfl rfl (se_X3_isUnder_3_4 M hok d) ?_
                            show PW 203 d (45, [some (pvR 0), some (pvI n1), some (pvI n2), some (pvI (M.1 (pvbs 10 + Int32.toNatClampNeg n1) 0))], [pvI 0], M) _
                            refine pw_if hT (c := 0 = 0) rfl rfl (fun c270_ => ?_) (fun c270_ => absurd (by decide) c270_)
                            refine pw_blk hT 1 (S' := (54, [some (pvR 0), some (pvI n1), some (pvI n2), some (pvI (M.1 (pvbs 10 + Int32.toNatClampNeg n1) 0))], [pvI (-12)], M)) rfl ⟨trivial, trivial⟩ ?_
                            exact pw_ret hT rfl (r := some (pvI (-12))) (M' := M) ⟨rfl, rfl⟩ ⟨⟨_, rfl, (zr_wide (show (-12) ≤ Int32.toInt (-12) ∧ Int32.toInt (-12) ≤ (-12) from (by decide)) (by decide) (by decide)), (by rw [if_neg c6_, if_neg c10_, if_neg c20_, if_neg c25_, if_neg c36_, if_neg c99_, if_neg c162_, if_pos c225_, if_neg c227_, if_neg c236_, if_neg c245_, if_neg c254_]; first | done | (rw [if_neg c254_]; done))⟩, rfl⟩
                          · have b271_ : 5 ≤ Int32.toInt n2 ∧ Int32.toInt n2 ≤ 6 := (by have u0 := b262_; have u1 := (not_congr (zi_eq _ _)).mp c263_; have u2 := (show 4 ≤ Int32.toInt 4 ∧ Int32.toInt 4 ≤ 4 from (by decide)); omega)
                            by_cases c272_ : n2 = 5
                            · refine pw_eqI c272_ ?_
                              have b273_ : 5 ≤ Int32.toInt n2 ∧ Int32.toInt n2 ≤ 5 := (by have u0 := b271_; have u1 := (zi_eq _ _).mp c272_; have u2 := (show 5 ≤ Int32.toInt 5 ∧ Int32.toInt 5 ≤ 5 from (by decide)); omega)
                              refine pw_callT hT (as := [pvI 3, pvI 5]) (lo1 := [some (pvI 3), some (pvI 5), none, none]) (d1 := d) (rest := []) rfl rfl rfl rfl rfl (fun h => absurd h (by decide)) (Nat.zero_le _) rfl rfl rfl (se_X3_isUnder_3_5 M hok d) ?_
                              show PW 203 d (45, [some (pvR 0), some (pvI n1), some (pvI n2), some (pvI (M.1 (pvbs 10 + Int32.toNatClampNeg n1) 0))], [pvI 0], M) _
                              refine pw_if hT (c := 0 = 0) rfl rfl (fun c279_ => ?_) (fun c279_ => absurd (by decide) c279_)
                              refine pw_blk hT 1 (S' := (54, [some (pvR 0), some (pvI n1), some (pvI n2), some (pvI (M.1 (pvbs 10 + Int32.toNatClampNeg n1) 0))], [pvI (-12)], M)) rfl ⟨trivial, trivial⟩ ?_
                              exact pw_ret hT rfl (r := some (pvI (-12))) (M' := M) ⟨rfl, rfl⟩ ⟨⟨_, rfl, (zr_wide (show (-12) ≤ Int32.toInt (-12) ∧ Int32.toInt (-12) ≤ (-12) from (by decide)) (by decide) (by decide)), (by rw [if_neg c6_, if_neg c10_, if_neg c20_, if_neg c25_, if_neg c36_, if_neg c99_, if_neg c162_, if_pos c225_, if_neg c227_, if_neg c236_, if_neg c245_, if_neg c254_]; first | done | (rw [if_neg c254_]; done))⟩, rfl⟩
                            · have b280_ : 6 ≤ Int32.toInt n2 ∧ Int32.toInt n2 ≤ 6 := (by have u0 := b271_; have u1 := (not_congr (zi_eq _ _)).mp c272_; have u2 := (show 5 ≤ Int32.toInt 5 ∧ Int32.toInt 5 ≤ 5 from (by decide)); omega)
                              refine pw_eqI ((zi_eq _ (6)).mpr (by have u0 := b280_; have u1 : Int32.toInt (6) = 6 := (by decide); omega)) ?_
                              refine pw_callT hT (as := [pvI 3, pvI 6]) (lo1 := [some (pvI 3), some (pvI 6), none, none]) (d1 := d) (rest := []) rfl rfl rfl rfl rfl (fun h => absurd h (by decide)) (Nat.zero_le _) rfl rfl rfl (se_X3_isUnder_3_6 M hok d) ?_
                              show PW 203 d (45, [some (pvR 0), some (pvI n1), some (pvI n2), some (pvI (M.1 (pvbs 10 + Int32.toNatClampNeg n1) 0))], [pvI 0], M) _
                              refine pw_if hT (c := 0 = 0) rfl rfl (fun c286_ => ?_) (fun c286_ => absurd (by decide) c286_)
                              refine pw_blk hT 1 (S' := (54, [some (pvR 0), some (pvI n1), some (pvI n2), some (pvI (M.1 (pvbs 10 + Int32.toNatClampNeg n1) 0))], [pvI (-12)], M)) rfl ⟨trivial, trivial⟩ ?_
                              exact pw_ret hT rfl (r := some (pvI (-12))) (M' := M) ⟨rfl, rfl⟩ ⟨⟨_, rfl, (zr_wide (show (-12) ≤ Int32.toInt (-12) ∧ Int32.toInt (-12) ≤ (-12) from (by decide)) (by decide) (by decide)), (by rw [if_neg c6_, if_neg c10_, if_neg c20_, if_neg c25_, if_neg c36_, if_neg c99_, if_neg c162_, if_pos c225_, if_neg c227_, if_neg c236_, if_neg c245_, if_neg c254_]; first | done | (rw [if_neg c254_]; done))⟩, rfl⟩
                · have b287_ : 4 ≤ Int32.toInt (M.1 (pvbs 10 + Int32.toNatClampNeg n1) 0) ∧ Int32.toInt (M.1 (pvbs 10 + Int32.toNatClampNeg n1) 0) ≤ 6 := (by have u0 := b224_; have u1 := (not_congr (zi_eq _ _)).mp c225_; have u2 := (show 3 ≤ Int32.toInt 3 ∧ Int32.toInt 3 ≤ 3 from (by decide)); omega)
                  by_cases c288_ : (M.1 (pvbs 10 + Int32.toNatClampNeg n1) 0) = 4
                  · refine pw_eqI c288_ ?_
                    have b289_ : 4 ≤ Int32.toInt (M.1 (pvbs 10 + Int32.toNatClampNeg n1) 0) ∧ Int32.toInt (M.1 (pvbs 10 + Int32.toNatClampNeg n1) 0) ≤ 4 := (by have u0 := b287_; have u1 := (zi_eq _ _).mp c288_; have u2 := (show 4 ≤ Int32.toInt 4 ∧ Int32.toInt 4 ≤ 4 from (by decide)); omega)
                    refine pw_blk hT 1 (S' := (42, [some (pvR 0), some (pvI n1), some (pvI n2), some (pvI (M.1 (pvbs 10 + Int32.toNatClampNeg n1) 0))], [pvI n2, pvI 4], M)) rfl ⟨trivial, trivial⟩ ?_
                    by_cases c290_ : n2 = 0
                    · refine pw_eqI c290_ ?_
                      have b291_ : 0 ≤ Int32.toInt n2 ∧ Int32.toInt n2 ≤ 0 := (by have u0 := b13_; have u1 := (zi_eq _ _).mp c290_; have u2 := (show 0 ≤ Int32.toInt 0 ∧ Int32.toInt 0 ≤ 0 from (by decide)); omega)
                      refine pw_callT hT (as := [pvI 4, pvI 0]) (lo1 := [some (pvI 4), some (pvI 0), none, none]) (d1 := d) (rest := []) rfl rfl rfl rfl rfl (fun h => absurd h (by decide)) (Nat.zero_le _) rfl rfl rfl (se_X3_isUnder_4_0 M hok d) ?_
                      show PW 203 d (45, [some (pvR 0), some (pvI n1), some (pvI n2), some (pvI (M.1 (pvbs 10 + Int32.toNatClampNeg n1) 0))], [pvI 1], M) _
                      refine pw_if hT (c := 1 = 0) rfl rfl (fun c297_ => absurd c297_ (by decide)) (fun c297_ => ?_)
                      refine pw_blk hT 2 (S' := (54, [some (pvR 0), some (pvI n1), some (pvI n2), some (pvI (M.1 (pvbs 10 + Int32.toNatClampNeg n1) 0))], [pvI (M.1 (pvbs 10 + Int32.toNatClampNeg n1) 0)], M)) rfl ⟨trivial, trivial, trivial⟩ ?_
                      exact pw_ret hT rfl (r := some (pvI (M.1 (pvbs 10 + Int32.toNatClampNeg n1) 0))) (M' := M) ⟨rfl, rfl⟩ ⟨⟨_, rfl, (zr_wide b289_ (by decide) (by decide)), (by rw [if_neg c6_, if_neg c10_, if_neg c20_, if_neg c25_, if_neg c36_, if_neg c99_, if_neg c162_, if_neg c225_, if_pos c288_, if_pos c290_]; first | done | (rw [if_pos c290_]; done))⟩, rfl⟩
                    · have b298_ : 1 ≤ Int32.toInt n2 ∧ Int32.toInt n2 ≤ 6 := (by have u0 := b13_; have u1 := (not_congr (zi_eq _ _)).mp c290_; have u2 := (show 0 ≤ Int32.toInt 0 ∧ Int32.toInt 0 ≤ 0 from (by decide)); omega)
                      by_cases c299_ : n2 = 1
                      · refine pw_eqI c299_ ?_
                        have b300_ : 1 ≤ Int32.toInt n2 ∧ Int32.toInt n2 ≤ 1 := (by have u0 := b298_; have u1 := (zi_eq _ _).mp c299_; have u2 := (show 1 ≤ Int32.toInt 1 ∧ Int32.toInt 1 ≤ 1 from (by decide)); omega)
                        refine pw_callT hT (as := [pvI 4, pvI 1]) (lo1 := [some (pvI 4), some (pvI 1), none, none]) (d1 := d) (rest := []) rfl rfl rfl rfl rfl (fun h => absurd h (by decide)) (Nat.zero_le _) rfl rfl rfl (se_X3_isUnder_4_1 M hok d) ?_
                        show PW 203 d (45, [some (pvR 0), some (pvI n1), some (pvI n2), some (pvI (M.1 (pvbs 10 + Int32.toNatClampNeg n1) 0))], [pvI 1], M) _
                        refine pw_if hT (c := 1 = 0) rfl rfl (fun c306_ => absurd c306_ (by decide)) (fun c306_ => ?_)
                        refine pw_blk hT 2 (S' := (54, [some (pvR 0), some (pvI n1), some (pvI n2), some (pvI (M.1 (pvbs 10 + Int32.toNatClampNeg n1) 0))], [pvI (M.1 (pvbs 10 + Int32.toNatClampNeg n1) 0)], M)) rfl ⟨trivial, trivial, trivial⟩ ?_
                        exact pw_ret hT rfl (r := some (pvI (M.1 (pvbs 10 + Int32.toNatClampNeg n1) 0))) (M' := M) ⟨rfl, rfl⟩ ⟨⟨_, rfl, (zr_wide b289_ (by decide) (by decide)), (by rw [if_neg c6_, if_neg c10_, if_neg c20_, if_neg c25_, if_neg c36_, if_neg c99_, if_neg c162_, if_neg c225_, if_pos c288_, if_neg c290_, if_pos c299_]; first | done | (rw [if_pos c299_]; done))⟩, rfl⟩
                      · have b307_ : 2 ≤ Int32.toInt n2 ∧ Int32.toInt n2 ≤ 6 := (by have u0 := b298_; have u1 := (not_congr (zi_eq _ _)).mp c299_; have u2 := (show 1 ≤ Int32.toInt 1 ∧ Int32.toInt 1 ≤ 1 from (by decide)); omega)
                        by_cases c308_ : n2 = 2
                        · refine pw_eqI c308_ ?_
                          have b309_ : 2 ≤ Int32.toInt n2 ∧ Int32.toInt n2 ≤ 2 := (by have u0 := b307_; have u1 := (zi_eq _ _).mp c308_; have u2 := (show 2 ≤ Int32.toInt 2 ∧ Int32.toInt 2 ≤ 2 from (by decide)); omega)
                          refine pw_callT hT (as := [pvI 4, pvI 2]) (lo1 := [some (pvI 4), some (pvI 2), none, none]) (d1 := d) (rest := []) rfl rfl rfl rfl rfl (fun h => absurd h (by decide)) (Nat.zero_le _) rfl rfl rfl (se_X3_isUnder_4_2 M hok d) ?_
                          show PW 203 d (45, [some (pvR 0), some (pvI n1), some (pvI n2), some (pvI (M.1 (pvbs 10 + Int32.toNatClampNeg n1) 0))], [pvI 0], M) _
                          refine pw_if hT (c := 0 = 0) rfl rfl (fun c315_ => ?_) (fun c315_ => absurd (by decide) c315_)
                          refine pw_blk hT 1 (S' := (54, [some (pvR 0), some (pvI n1), some (pvI n2), some (pvI (M.1 (pvbs 10 + Int32.toNatClampNeg n1) 0))], [pvI (-12)], M)) rfl ⟨trivial, trivial⟩ ?_
                          exact pw_ret hT rfl (r := some (pvI (-12))) (M' := M) ⟨rfl, rfl⟩ ⟨⟨_, rfl, (zr_wide (show (-12) ≤ Int32.toInt (-12) ∧ Int32.toInt (-12) ≤ (-12) from (by decide)) (by decide) (by decide)), (by rw [if_neg c6_, if_neg c10_, if_neg c20_, if_neg c25_, if_neg c36_, if_neg c99_, if_neg c162_, if_neg c225_, if_pos c288_, if_neg c290_, if_neg c299_, if_pos c308_]; first | done | (rw [if_pos c308_]; done))⟩, rfl⟩
                        · have b316_ : 3 ≤ Int32.toInt n2 ∧ Int32.toInt n2 ≤ 6 := (by have u0 := b307_; have u1 := (not_congr (zi_eq _ _)).mp c308_; have u2 := (show 2 ≤ Int32.toInt 2 ∧ Int32.toInt 2 ≤ 2 from (by decide)); omega)
                          by_cases c317_ : n2 = 3
                          · refine pw_eqI c317_ ?_
                            have b318_ : 3 ≤ Int32.toInt n2 ∧ Int32.toInt n2 ≤ 3 := (by have u0 := b316_; have u1 := (zi_eq _ _).mp c317_; have u2 := (show 3 ≤ Int32.toInt 3 ∧ Int32.toInt 3 ≤ 3 from (by decide)); omega)
                            refine pw_callT hT (as := [pvI 4, pvI 3]) (lo1 := [some (pvI 4), some (pvI 3), none, none]) (d1 := d) (rest := []) rfl rfl rfl rfl rfl (fun h => absurd h (by decide)) (Nat.zero_le _) rfl rfl rfl (se_X3_isUnder_4_3 M hok d) ?_
                            show PW 203 d (45, [some (pvR 0), some (pvI n1), some (pvI n2), some (pvI (M.1 (pvbs 10 + Int32.toNatClampNeg n1) 0))], [pvI 0], M) _
                            refine pw_if hT (c := 0 = 0) rfl rfl (fun c324_ => ?_) (fun c324_ => absurd (by decide) c324_)
                            refine pw_blk hT 1 (S' := (54, [some (pvR 0), some (pvI n1), some (pvI n2), some (pvI (M.1 (pvbs 10 + Int32.toNatClampNeg n1) 0))], [pvI (-12)], M)) rfl ⟨trivial, trivial⟩ ?_
                            exact pw_ret hT rfl (r := some (pvI (-12))) (M' := M) ⟨rfl, rfl⟩ ⟨⟨_, rfl, (zr_wide (show (-12) ≤ Int32.toInt (-12) ∧ Int32.toInt (-12) ≤ (-12) from (by decide)) (by decide) (by decide)), (by rw [if_neg c6_, if_neg c10_, if_neg c20_, if_neg c25_, if_neg c36_, if_neg c99_, if_neg c162_, if_neg c225_, if_pos c288_, if_neg c290_, if_neg c299_, if_neg c308_, if_pos c317_]; first | done | (rw [if_pos c317_]; done))⟩, rfl⟩
                          · have b325_ : 4 ≤ Int32.toInt n2 ∧ Int32.toInt n2 ≤ 6 := (by have u0 := b316_; have u1 := (not_congr (zi_eq _ _)).mp c317_; have u2 := (show 3 ≤ Int32.toInt 3 ∧ Int32.toInt 3 ≤ 3 from (by decide)); omega)
                            by_cases c326_ : n2 = 4
                            · refine pw_eqI c326_ ?_
                              have b327_ : 4 ≤ Int32.toInt n2 ∧ Int32.toInt n2 ≤ 4 := (by have u0 := b325_; have u1 := (zi_eq _ _).mp c326_; have u2 := (show 4 ≤ Int32.toInt 4 ∧ Int32.toInt 4 ≤ 4 from (by decide)); omega)
                              refine pw_callT hT (as := [pvI 4, pvI 4]) (lo1 := [some (pvI 4), some (pvI 4), none, none]) (d1 := d) (rest := []) rfl rfl rfl rfl rfl (fun h => absurd h (by decide)) (Nat.zero_le _) rfl rfl rfl (se_X3_isUnder_4_4 M hok d) ?_
                              show PW 203 d (45, [some (pvR 0), some (pvI n1), some (pvI n2), some (pvI (M.1 (pvbs 10 + Int32.toNatClampNeg n1) 0))], [pvI 1], M) _
                              refine pw_if hT (c := 1 = 0) rfl rfl (fun c333_ => absurd c333_ (by decide)) (fun c333_ => ?_)
                              refine pw_blk hT 2 (S' := (54, [some (pvR 0), some (pvI n1), some (pvI n2), some (pvI (M.1 (pvbs 10 + Int32.toNatClampNeg n1) 0))], [pvI (M.1 (pvbs 10 + Int32.toNatClampNeg n1) 0)], M)) rfl ⟨trivial, trivial, trivial⟩ ?_
                              exact pw_ret hT rfl (r := some (pvI (M.1 (pvbs 10 + Int32.toNatClampNeg n1) 0))) (M' := M) ⟨rfl, rfl⟩ ⟨⟨_, rfl, (zr_wide b289_ (by decide) (by decide)), (by rw [if_neg c6_, if_neg c10_, if_neg c20_, if_neg c25_, if_neg c36_, if_neg c99_, if_neg c162_, if_neg c225_, if_pos c288_, if_neg c290_, if_neg c299_, if_neg c308_, if_neg c317_, if_pos c326_]; first | done | (rw [if_pos c326_]; done))⟩, rfl⟩
                            · have b334_ : 5 ≤ Int32.toInt n2 ∧ Int32.toInt n2 ≤ 6 := (by have u0 := b325_; have u1 := (not_congr (zi_eq _ _)).mp c326_; have u2 := (show 4 ≤ Int32.toInt 4 ∧ Int32.toInt 4 ≤ 4 from (by decide)); omega)
                              by_cases c335_ : n2 = 5
                              · refine pw_eqI c335_ ?_
                                have b336_ : 5 ≤ Int32.toInt n2 ∧ Int32.toInt n2 ≤ 5 := (by have u0 := b334_; have u1 := (zi_eq _ _).mp c335_; have u2 := (show 5 ≤ Int32.toInt 5 ∧ Int32.toInt 5 ≤ 5 from (by decide)); omega)
                                refine pw_callT hT (as := [pvI 4, pvI 5]) (lo1 := [some (pvI 4), some (pvI 5), none, none]) (d1 := d) (rest := []) rfl rfl rfl rfl rfl (fun h => absurd h (by decide)) (Nat.zero_le _) rfl rfl rfl (se_X3_isUnder_4_5 M hok d) ?_
                                show PW 203 d (45, [some (pvR 0), some (pvI n1), some (pvI n2), some (pvI (M.1 (pvbs 10 + Int32.toNatClampNeg n1) 0))], [pvI 0], M) _
                                refine pw_if hT (c := 0 = 0) rfl rfl (fun c342_ => ?_) (fun c342_ => absurd (by decide) c342_)
                                refine pw_blk hT 1 (S' := (54, [some (pvR 0), some (pvI n1), some (pvI n2), some (pvI (M.1 (pvbs 10 + Int32.toNatClampNeg n1) 0))], [pvI (-12)], M)) rfl ⟨trivial, trivial⟩ ?_
                                exact pw_ret hT rfl (r := some (pvI (-12))) (M' := M) ⟨rfl, rfl⟩ ⟨⟨_, rfl, (zr_wide (show (-12) ≤ Int32.toInt (-12) ∧ Int32.toInt (-12) ≤ (-12) from (by decide)) (by decide) (by decide)), (by rw [if_neg c6_, if_neg c10_, if_neg c20_, if_neg c25_, if_neg c36_, if_neg c99_, if_neg c162_, if_neg c225_, if_pos c288_, if_neg c290_, if_neg c299_, if_neg c308_, if_neg c317_, if_neg c326_]; first | done | (rw [if_neg c326_]; done))⟩, rfl⟩
                              · have b343_ : 6 ≤ Int32.toInt n2 ∧ Int32.toInt n2 ≤ 6 := (by have u0 := b334_; have u1 := (not_congr (zi_eq _ _)).mp c335_; have u2 := (show 5 ≤ Int32.toInt 5 ∧ Int32.toInt 5 ≤ 5 from (by decide)); omega)
                                refine pw_eqI ((zi_eq _ (6)).mpr (by have u0 := b343_; have u1 : Int32.toInt (6) = 6 := (by decide); omega)) ?_
                                refine pw_callT hT (as := [pvI 4, pvI 6]) (lo1 := [some (pvI 4), some (pvI 6), none, none]) (d1 := d) (rest := []) rfl rfl rfl rfl rfl (fun h => absurd h (by decide)) (Nat.zero_le _) rfl rfl rfl (se_X3_isUnder_4_6 M hok d) ?_
                                show PW 203 d (45, [some (pvR 0), some (pvI n1), some (pvI n2), some (pvI (M.1 (pvbs 10 + Int32.toNatClampNeg n1) 0))], [pvI 0], M) _
                                refine pw_if hT (c := 0 = 0) rfl rfl (fun c349_ => ?_) (fun c349_ => absurd (by decide) c349_)
                                refine pw_blk hT 1 (S' := (54, [some (pvR 0), some (pvI n1), some (pvI n2), some (pvI (M.1 (pvbs 10 + Int32.toNatClampNeg n1) 0))], [pvI (-12)], M)) rfl ⟨trivial, trivial⟩ ?_
                                exact pw_ret hT rfl (r := some (pvI (-12))) (M' := M) ⟨rfl, rfl⟩ ⟨⟨_, rfl, (zr_wide (show (-12) ≤ Int32.toInt (-12) ∧ Int32.toInt (-12) ≤ (-12) from (by decide)) (by decide) (by decide)), (by rw [if_neg c6_, if_neg c10_, if_neg c20_, if_neg c25_, if_neg c36_, if_neg c99_, if_neg c162_, if_neg c225_, if_pos c288_, if_neg c290_, if_neg c299_, if_neg c308_, if_neg c317_, if_neg c326_]; first | done | (rw [if_neg c326_]; done))⟩, rfl⟩
                  · have b350_ : 5 ≤ Int32.toInt (M.1 (pvbs 10 + Int32.toNatClampNeg n1) 0) ∧ Int32.toInt (M.1 (pvbs 10 + Int32.toNatClampNeg n1) 0) ≤ 6 := (by have u0 := b287_; have u1 := (not_congr (zi_eq _ _)).mp c288_; have u2 := (show 4 ≤ Int32.toInt 4 ∧ Int32.toInt 4 ≤ 4 from (by decide)); omega)
                    by_cases c351_ : (M.1 (pvbs 10 + Int32.toNatClampNeg n1) 0) = 5
                    · refine pw_eqI c351_ ?_
                      have b352_ : 5 ≤ Int32.toInt (M.1 (pvbs 10 + Int32.toNatClampNeg n1) 0) ∧ Int32.toInt (M.1 (pvbs 10 + Int32.toNatClampNeg n1) 0) ≤ 5 := (by have u0 := b350_; have u1 := (zi_eq _ _).mp c351_; have u2 := (show 5 ≤ Int32.toInt 5 ∧ Int32.toInt 5 ≤ 5 from (by decide)); omega)
                      refine pw_blk hT 1 (S' := (42, [some (pvR 0), some (pvI n1), some (pvI n2), some (pvI (M.1 (pvbs 10 + Int32.toNatClampNeg n1) 0))], [pvI n2, pvI 5], M)) rfl ⟨trivial, trivial⟩ ?_
                      by_cases c353_ : n2 = 0
                      · refine pw_eqI c353_ ?_
                        have b354_ : 0 ≤ Int32.toInt n2 ∧ Int32.toInt n2 ≤ 0 := (by have u0 := b13_; have u1 := (zi_eq _ _).mp c353_; have u2 := (show 0 ≤ Int32.toInt 0 ∧ Int32.toInt 0 ≤ 0 from (by decide)); omega)
                        refine pw_callT hT (as := [pvI 5, pvI 0]) (lo1 := [some (pvI 5), some (pvI 0), none, none]) (d1 := d) (rest := []) rfl rfl rfl rfl rfl (fun h => absurd h (by decide)) (Nat.zero_le _) rfl rfl rfl (se_X3_isUnder_5_0 M hok d) ?_
                        show PW 203 d (45, [some (pvR 0), some (pvI n1), some (pvI n2), some (pvI (M.1 (pvbs 10 + Int32.toNatClampNeg n1) 0))], [pvI 1], M) _
                        refine pw_if hT (c := 1 = 0) rfl rfl (fun c360_ => absurd c360_ (by decide)) (fun c360_ => ?_)
                        refine pw_blk hT 2 (S' := (54, [some (pvR 0), some (pvI n1), some (pvI n2), some (pvI (M.1 (pvbs 10 + Int32.toNatClampNeg n1) 0))], [pvI (M.1 (pvbs 10 + Int32.toNatClampNeg n1) 0)], M)) rfl ⟨trivial, trivial, trivial⟩ ?_
                        exact pw_ret hT rfl (r := some (pvI (M.1 (pvbs 10 + Int32.toNatClampNeg n1) 0))) (M' := M) ⟨rfl, rfl⟩ ⟨⟨_, rfl, (zr_wide b352_ (by decide) (by decide)), (by rw [if_neg c6_, if_neg c10_, if_neg c20_, if_neg c25_, if_neg c36_, if_neg c99_, if_neg c162_, if_neg c225_, if_neg c288_, if_pos c351_, if_pos c353_]; first | done | (rw [if_pos c353_]; done))⟩, rfl⟩
                      · have b361_ : 1 ≤ Int32.toInt n2 ∧ Int32.toInt n2 ≤ 6 := (by have u0 := b13_; have u1 := (not_congr (zi_eq _ _)).mp c353_; have u2 := (show 0 ≤ Int32.toInt 0 ∧ Int32.toInt 0 ≤ 0 from (by decide)); omega)
                        by_cases c362_ : n2 = 1
                        · refine pw_eqI c362_ ?_
                          have b363_ : 1 ≤ Int32.toInt n2 ∧ Int32.toInt n2 ≤ 1 := (by have u0 := b361_; have u1 := (zi_eq _ _).mp c362_; have u2 := (show 1 ≤ Int32.toInt 1 ∧ Int32.toInt 1 ≤ 1 from (by decide)); omega)
                          refine pw_callT hT (as := [pvI 5, pvI 1]) (lo1 := [some (pvI 5), some (pvI 1), none, none]) (d1 := d) (rest := []) rfl rfl rfl rfl rfl (fun h => absurd h (by decide)) (Nat.zero_le _) rfl rfl rfl (se_X3_isUnder_5_1 M hok d) ?_
                          show PW 203 d (45, [some (pvR 0), some (pvI n1), some (pvI n2), some (pvI (M.1 (pvbs 10 + Int32.toNatClampNeg n1) 0))], [pvI 0], M) _
                          refine pw_if hT (c := 0 = 0) rfl rfl (fun c369_ => ?_) (fun c369_ => absurd (by decide) c369_)
                          refine pw_blk hT 1 (S' := (54, [some (pvR 0), some (pvI n1), some (pvI n2), some (pvI (M.1 (pvbs 10 + Int32.toNatClampNeg n1) 0))], [pvI (-12)], M)) rfl ⟨trivial, trivial⟩ ?_
                          exact pw_ret hT rfl (r := some (pvI (-12))) (M' := M) ⟨rfl, rfl⟩ ⟨⟨_, rfl, (zr_wide (show (-12) ≤ Int32.toInt (-12) ∧ Int32.toInt (-12) ≤ (-12) from (by decide)) (by decide) (by decide)), (by rw [if_neg c6_, if_neg c10_, if_neg c20_, if_neg c25_, if_neg c36_, if_neg c99_, if_neg c162_, if_neg c225_, if_neg c288_, if_pos c351_, if_neg c353_, if_pos c362_]; first | done | (rw [if_pos c362_]; done))⟩, rfl⟩
                        · have b370_ : 2 ≤ Int32.toInt n2 ∧ Int32.toInt n2 ≤ 6 := (by have u0 := b361_; have u1 := (not_congr (zi_eq _ _)).mp c362_; have u2 := (show 1 ≤ Int32.toInt 1 ∧ Int32.toInt 1 ≤ 1 from (by decide)); omega)
                          by_cases c371_ : n2 = 2
                          · refine pw_eqI c371_ ?_
                            have b372_ : 2 ≤ Int32.toInt n2 ∧ Int32.toInt n2 ≤ 2 := (by have u0 := b370_; have u1 := (zi_eq _ _).mp c371_; have u2 := (show 2 ≤ Int32.toInt 2 ∧ Int32.toInt 2 ≤ 2 from (by decide)); omega)
                            refine pw_callT hT (as := [pvI 5, pvI 2]) (lo1 := [some (pvI 5), some (pvI 2), none, none]) (d1 := d) (rest := []) rfl rfl rfl rfl rfl (fun h => absurd h (by decide)) (Nat.zero_le _) rfl rfl rfl (se_X3_isUnder_5_2 M hok d) ?_
                            show PW 203 d (45, [some (pvR 0), some (pvI n1), some (pvI n2), some (pvI (M.1 (pvbs 10 + Int32.toNatClampNeg n1) 0))], [pvI 1], M) _
                            refine pw_if hT (c := 1 = 0) rfl rfl (fun c378_ => absurd c378_ (by decide)) (fun c378_ => ?_)
                            refine pw_blk hT 2 (S' := (54, [some (pvR 0), some (pvI n1), some (pvI n2), some (pvI (M.1 (pvbs 10 + Int32.toNatClampNeg n1) 0))], [pvI (M.1 (pvbs 10 + Int32.toNatClampNeg n1) 0)], M)) rfl ⟨trivial, trivial, trivial⟩ ?_
                            exact pw_ret hT rfl (r := some (pvI (M.1 (pvbs 10 + Int32.toNatClampNeg n1) 0))) (M' := M) ⟨rfl, rfl⟩ ⟨⟨_, rfl, (zr_wide b352_ (by decide) (by decide)), (by rw [if_neg c6_, if_neg c10_, if_neg c20_, if_neg c25_, if_neg c36_, if_neg c99_, if_neg c162_, if_neg c225_, if_neg c288_, if_pos c351_, if_neg c353_, if_neg c362_, if_pos c371_]; first | done | (rw [if_pos c371_]; done))⟩, rfl⟩
                          · have b379_ : 3 ≤ Int32.toInt n2 ∧ Int32.toInt n2 ≤ 6 := (by have u0 := b370_; have u1 := (not_congr (zi_eq _ _)).mp c371_; have u2 := (show 2 ≤ Int32.toInt 2 ∧ Int32.toInt 2 ≤ 2 from (by decide)); omega)
                            by_cases c380_ : n2 = 3
                            · refine pw_eqI c380_ ?_
                              have b381_ : 3 ≤ Int32.toInt n2 ∧ Int32.toInt n2 ≤ 3 := (by have u0 := b379_; have u1 := (zi_eq _ _).mp c380_; have u2 := (show 3 ≤ Int32.toInt 3 ∧ Int32.toInt 3 ≤ 3 from (by decide)); omega)
                              refine pw_callT hT (as := [pvI 5, pvI 3]) (lo1 := [some (pvI 5), some (pvI 3), none, none]) (d1 := d) (rest := []) rfl rfl rfl rfl rfl (fun h => absurd h (by decide)) (Nat.zero_le _) rfl rfl rfl (se_X3_isUnder_5_3 M hok d) ?_
                              show PW 203 d (45, [some (pvR 0), some (pvI n1), some (pvI n2), some (pvI (M.1 (pvbs 10 + Int32.toNatClampNeg n1) 0))], [pvI 0], M) _
                              refine pw_if hT (c := 0 = 0) rfl rfl (fun c387_ => ?_) (fun c387_ => absurd (by decide) c387_)
                              refine pw_blk hT 1 (S' := (54, [some (pvR 0), some (pvI n1), some (pvI n2), some (pvI (M.1 (pvbs 10 + Int32.toNatClampNeg n1) 0))], [pvI (-12)], M)) rfl ⟨trivial, trivial⟩ ?_
                              exact pw_ret hT rfl (r := some (pvI (-12))) (M' := M) ⟨rfl, rfl⟩ ⟨⟨_, rfl, (zr_wide (show (-12) ≤ Int32.toInt (-12) ∧ Int32.toInt (-12) ≤ (-12) from (by decide)) (by decide) (by decide)), (by rw [if_neg c6_, if_neg c10_, if_neg c20_, if_neg c25_, if_neg c36_, if_neg c99_, if_neg c162_, if_neg c225_, if_neg c288_, if_pos c351_, if_neg c353_, if_neg c362_, if_neg c371_, if_pos c380_]; first | done | (rw [if_pos c380_]; done))⟩, rfl⟩
                            · have b388_ : 4 ≤ Int32.toInt n2 ∧ Int32.toInt n2 ≤ 6 := (by have u0 := b379_; have u1 := (not_congr (zi_eq _ _)).mp c380_; have u2 := (show 3 ≤ Int32.toInt 3 ∧ Int32.toInt 3 ≤ 3 from (by decide)); omega)
                              by_cases c389_ : n2 = 4
                              · refine pw_eqI c389_ ?_
                                have b390_ : 4 ≤ Int32.toInt n2 ∧ Int32.toInt n2 ≤ 4 := (by have u0 := b388_; have u1 := (zi_eq _ _).mp c389_; have u2 := (show 4 ≤ Int32.toInt 4 ∧ Int32.toInt 4 ≤ 4 from (by decide)); omega)
                                refine pw_callT hT (as := [pvI 5, pvI 4]) (lo1 := [some (pvI 5), some (pvI 4), none, none]) (d1 := d) (rest := []) rfl rfl rfl rfl rfl (fun h => absurd h (by decide)) (Nat.zero_le _) rfl rfl rfl (se_X3_isUnder_5_4 M hok d) ?_
                                show PW 203 d (45, [some (pvR 0), some (pvI n1), some (pvI n2), some (pvI (M.1 (pvbs 10 + Int32.toNatClampNeg n1) 0))], [pvI 0], M) _
                                refine pw_if hT (c := 0 = 0) rfl rfl (fun c396_ => ?_) (fun c396_ => absurd (by decide) c396_)
                                refine pw_blk hT 1 (S' := (54, [some (pvR 0), some (pvI n1), some (pvI n2), some (pvI (M.1 (pvbs 10 + Int32.toNatClampNeg n1) 0))], [pvI (-12)], M)) rfl ⟨trivial, trivial⟩ ?_
                                exact pw_ret hT rfl (r := some (pvI (-12))) (M' := M) ⟨rfl, rfl⟩ ⟨⟨_, rfl, (zr_wide (show (-12) ≤ Int32.toInt (-12) ∧ Int32.toInt (-12) ≤ (-12) from (by decide)) (by decide) (by decide)), (by rw [if_neg c6_, if_neg c10_, if_neg c20_, if_neg c25_, if_neg c36_, if_neg c99_, if_neg c162_, if_neg c225_, if_neg c288_, if_pos c351_, if_neg c353_, if_neg c362_, if_neg c371_, if_neg c380_, if_pos c389_]; first | done | (rw [if_pos c389_]; done))⟩, rfl⟩
                              · have b397_ : 5 ≤ Int32.toInt n2 ∧ Int32.toInt n2 ≤ 6 := (by have u0 := b388_; have u1 := (not_congr (zi_eq _ _)).mp c389_; have u2 := (show 4 ≤ Int32.toInt 4 ∧ Int32.toInt 4 ≤ 4 from (by decide)); omega)
                                by_cases c398_ : n2 = 5
                                · refine pw_eqI c398_ ?_
                                  have b399_ : 5 ≤ Int32.toInt n2 ∧ Int32.toInt n2 ≤ 5 := (by have u0 := b397_; have u1 := (zi_eq _ _).mp c398_; have u2 := (show 5 ≤ Int32.toInt 5 ∧ Int32.toInt 5 ≤ 5 from (by decide)); omega)
                                  refine pw_callT hT (as := [pvI 5, pvI 5]) (lo1 := [some (pvI 5), some (pvI 5), none, none]) (d1 := d) (rest := []) rfl rfl rfl rfl rfl (fun h => absurd h (by decide)) (Nat.zero_le _) rfl rfl rfl (se_X3_isUnder_5_5 M hok d) ?_
                                  show PW 203 d (45, [some (pvR 0), some (pvI n1), some (pvI n2), some (pvI (M.1 (pvbs 10 + Int32.toNatClampNeg n1) 0))], [pvI 1], M) _
                                  refine pw_if hT (c := 1 = 0) rfl rfl (fun c405_ => absurd c405_ (by decide)) (fun c405_ => ?_)
                                  refine pw_blk hT 2 (S' := (54, [some (pvR 0), some (pvI n1), some (pvI n2), some (pvI (M.1 (pvbs 10 + Int32.toNatClampNeg n1) 0))], [pvI (M.1 (pvbs 10 + Int32.toNatClampNeg n1) 0)], M)) rfl ⟨trivial, trivial, trivial⟩ ?_
                                  exact pw_ret hT rfl (r := some (pvI (M.1 (pvbs 10 + Int32.toNatClampNeg n1) 0))) (M' := M) ⟨rfl, rfl⟩ ⟨⟨_, rfl, (zr_wide b352_ (by decide) (by decide)), (by rw [if_neg c6_, if_neg c10_, if_neg c20_, if_neg c25_, if_neg c36_, if_neg c99_, if_neg c162_, if_neg c225_, if_neg c288_, if_pos c351_, if_neg c353_, if_neg c362_, if_neg c371_, if_neg c380_, if_neg c389_, if_pos c398_]; first | done | (rw [if_pos c398_]; done))⟩, rfl⟩
                                · have b406_ : 6 ≤ Int32.toInt n2 ∧ Int32.toInt n2 ≤ 6 := (by have u0 := b397_; have u1 := (not_congr (zi_eq _ _)).mp c398_; have u2 := (show 5 ≤ Int32.toInt 5 ∧ Int32.toInt 5 ≤ 5 from (by decide)); omega)
                                  refine pw_eqI ((zi_eq _ (6)).mpr (by have u0 := b406_; have u1 : Int32.toInt (6) = 6 := (by decide); omega)) ?_
                                  refine pw_callT hT (as := [pvI 5, pvI 6]) (lo1 := [some (pvI 5), some (pvI 6), none, none]) (d1 := d) (rest := []) rfl rfl rfl rfl rfl (fun h => absurd h (by decide)) (Nat.zero_le _) rfl rfl rfl (se_X3_isUnder_5_6 M hok d) ?_
                                  show PW 203 d (45, [some (pvR 0), some (pvI n1), some (pvI n2), some (pvI (M.1 (pvbs 10 + Int32.toNatClampNeg n1) 0))], [pvI 0], M) _
                                  refine pw_if hT (c := 0 = 0) rfl rfl (fun c412_ => ?_) (fun c412_ => absurd (by decide) c412_)
                                  refine pw_blk hT 1 (S' := (54, [some (pvR 0), some (pvI n1), some (pvI n2), some (pvI (M.1 (pvbs 10 + Int32.toNatClampNeg n1) 0))], [pvI (-12)], M)) rfl ⟨trivial, trivial⟩ ?_
                                  exact pw_ret hT rfl (r := some (pvI (-12))) (M' := M) ⟨rfl, rfl⟩ ⟨⟨_, rfl, (zr_wide (show (-12) ≤ Int32.toInt (-12) ∧ Int32.toInt (-12) ≤ (-12) from (by decide)) (by decide) (by decide)), (by rw [if_neg c6_, if_neg c10_, if_neg c20_, if_neg c25_, if_neg c36_, if_neg c99_, if_neg c162_, if_neg c225_, if_neg c288_, if_pos c351_, if_neg c353_, if_neg c362_, if_neg c371_, if_neg c380_, if_neg c389_, if_neg c398_]; first | done | (rw [if_neg c398_]; done))⟩, rfl⟩
                    · have b413_ : 6 ≤ Int32.toInt (M.1 (pvbs 10 + Int32.toNatClampNeg n1) 0) ∧ Int32.toInt (M.1 (pvbs 10 + Int32.toNatClampNeg n1) 0) ≤ 6 := (by have u0 := b350_; have u1 := (not_congr (zi_eq _ _)).mp c351_; have u2 := (show 5 ≤ Int32.toInt 5 ∧ Int32.toInt 5 ≤ 5 from (by decide)); omega)
                      refine pw_eqI ((zi_eq _ (6)).mpr (by have u0 := b413_; have u1 : Int32.toInt (6) = 6 := (by decide); omega)) ?_
                      refine pw_blk hT 1 (S' := (42, [some (pvR 0), some (pvI n1), some (pvI n2), some (pvI (M.1 (pvbs 10 + Int32.toNatClampNeg n1) 0))], [pvI n2, pvI 6], M)) rfl ⟨trivial, trivial⟩ ?_
                      by_cases c414_ : n2 = 0
                      · refine pw_eqI c414_ ?_
                        have b415_ : 0 ≤ Int32.toInt n2 ∧ Int32.toInt n2 ≤ 0 := (by have u0 := b13_; have u1 := (zi_eq _ _).mp c414_; have u2 := (show 0 ≤ Int32.toInt 0 ∧ Int32.toInt 0 ≤ 0 from (by decide)); omega)
                        refine pw_callT hT (as := [pvI 6, pvI 0]) (lo1 := [some (pvI 6), some (pvI 0), none, none]) (d1 := d) (rest := []) rfl rfl rfl rfl rfl (fun h => absurd h (by decide)) (Nat.zero_le _) rfl rfl rfl (se_X3_isUnder_6_0 M hok d) ?_
                        show PW 203 d (45, [some (pvR 0), some (pvI n1), some (pvI n2), some (pvI (M.1 (pvbs 10 + Int32.toNatClampNeg n1) 0))], [pvI 1], M) _
                        refine pw_if hT (c := 1 = 0) rfl rfl (fun c421_ => absurd c421_ (by decide)) (fun c421_ => ?_)
                        refine pw_blk hT 2 (S' := (54, [some (pvR 0), some (pvI n1), some (pvI n2), some (pvI (M.1 (pvbs 10 + Int32.toNatClampNeg n1) 0))], [pvI (M.1 (pvbs 10 + Int32.toNatClampNeg n1) 0)], M)) rfl ⟨trivial, trivial, trivial⟩ ?_
                        exact pw_ret hT rfl (r := some (pvI (M.1 (pvbs 10 + Int32.toNatClampNeg n1) 0))) (M' := M) ⟨rfl, rfl⟩ ⟨⟨_, rfl, (zr_wide b413_ (by decide) (by decide)), (by rw [if_neg c6_, if_neg c10_, if_neg c20_, if_neg c25_, if_neg c36_, if_neg c99_, if_neg c162_, if_neg c225_, if_neg c288_, if_neg c351_, if_pos c414_]; first | done | (rw [if_pos c414_]; done))⟩, rfl⟩
                      · have b422_ : 1 ≤ Int32.toInt n2 ∧ Int32.toInt n2 ≤ 6 := (by have u0 := b13_; have u1 := (not_congr (zi_eq _ _)).mp c414_; have u2 := (show 0 ≤ Int32.toInt 0 ∧ Int32.toInt 0 ≤ 0 from (by decide)); omega)
                        by_cases c423_ : n2 = 1
                        · refine pw_eqI c423_ ?_
                          have b424_ : 1 ≤ Int32.toInt n2 ∧ Int32.toInt n2 ≤ 1 := (by have u0 := b422_; have u1 := (zi_eq _ _).mp c423_; have u2 := (show 1 ≤ Int32.toInt 1 ∧ Int32.toInt 1 ≤ 1 from (by decide)); omega)
                          refine pw_callT hT (as := [pvI 6, pvI 1]) (lo1 := [some (pvI 6), some (pvI 1), none, none]) (d1 := d) (rest := []) rfl rfl rfl rfl rfl (fun h => absurd h (by decide)) (Nat.zero_le _) rfl rfl rfl (se_X3_isUnder_6_1 M hok d) ?_
                          show PW 203 d (45, [some (pvR 0), some (pvI n1), some (pvI n2), some (pvI (M.1 (pvbs 10 + Int32.toNatClampNeg n1) 0))], [pvI 0], M) _
                          refine pw_if hT (c := 0 = 0) rfl rfl (fun c430_ => ?_) (fun c430_ => absurd (by decide) c430_)
                          refine pw_blk hT 1 (S' := (54, [some (pvR 0), some (pvI n1), some (pvI n2), some (pvI (M.1 (pvbs 10 + Int32.toNatClampNeg n1) 0))], [pvI (-12)], M)) rfl ⟨trivial, trivial⟩ ?_
                          exact pw_ret hT rfl (r := some (pvI (-12))) (M' := M) ⟨rfl, rfl⟩ ⟨⟨_, rfl, (zr_wide (show (-12) ≤ Int32.toInt (-12) ∧ Int32.toInt (-12) ≤ (-12) from (by decide)) (by decide) (by decide)), (by rw [if_neg c6_, if_neg c10_, if_neg c20_, if_neg c25_, if_neg c36_, if_neg c99_, if_neg c162_, if_neg c225_, if_neg c288_, if_neg c351_, if_neg c414_, if_pos c423_]; first | done | (rw [if_pos c423_]; done))⟩, rfl⟩
                        · have b431_ : 2 ≤ Int32.toInt n2 ∧ Int32.toInt n2 ≤ 6 := (by have u0 := b422_; have u1 := (not_congr (zi_eq _ _)).mp c423_; have u2 := (show 1 ≤ Int32.toInt 1 ∧ Int32.toInt 1 ≤ 1 from (by decide)); omega)
                          by_cases c432_ : n2 = 2
                          · refine pw_eqI c432_ ?_
                            have b433_ : 2 ≤ Int32.toInt n2 ∧ Int32.toInt n2 ≤ 2 := (by have u0 := b431_; have u1 := (zi_eq _ _).mp c432_; have u2 := (show 2 ≤ Int32.toInt 2 ∧ Int32.toInt 2 ≤ 2 from (by decide)); omega)
                            refine pw_callT hT (as := [pvI 6, pvI 2]) (lo1 := [some (pvI 6), some (pvI 2), none, none]) (d1 := d) (rest := []) rfl rfl rfl rfl rfl (fun h => absurd h (by decide)) (Nat.zero_le _) rfl rfl rfl (se_X3_isUnder_6_2 M hok d) ?_
                            show PW 203 d (45, [some (pvR 0), some (pvI n1), some (pvI n2), some (pvI (M.1 (pvbs 10 + Int32.toNatClampNeg n1) 0))], [pvI 0], M) _
                            refine pw_if hT (c := 0 = 0) rfl rfl (fun c439_ => ?_) (fun c439_ => absurd (by decide) c439_)
                            refine pw_blk hT 1 (S' := (54, [some (pvR 0), some (pvI n1), some (pvI n2), some (pvI (M.1 (pvbs 10 + Int32.toNatClampNeg n1) 0))], [pvI (-12)], M)) rfl ⟨trivial, trivial⟩ ?_
                            exact pw_ret hT rfl (r := some (pvI (-12))) (M' := M) ⟨rfl, rfl⟩ ⟨⟨_, rfl, (zr_wide (show (-12) ≤ Int32.toInt (-12) ∧ Int32.toInt (-12) ≤ (-12) from (by decide)) (by decide) (by decide)), (by rw [if_neg c6_, if_neg c10_, if_neg c20_, if_neg c25_, if_neg c36_, if_neg c99_, if_neg c162_, if_neg c225_, if_neg c288_, if_neg c351_, if_neg c414_, if_neg c423_, if_pos c432_]; first | done | (rw [if_pos c432_]; done))⟩, rfl⟩
                          · have b440_ : 3 ≤ Int32.toInt n2 ∧ Int32.toInt n2 ≤ 6 := (by have u0 := b431_; have u1 := (not_congr (zi_eq _ _)).mp c432_; have u2 := (show 2 ≤ Int32.toInt 2 ∧ Int32.toInt 2 ≤ 2 from (by decide)); omega)
                            by_cases c441_ : n2 = 3
                            · refine pw_eqI c441_ ?_
                              have b442_ : 3 ≤ Int32.toInt n2 ∧ Int32.toInt n2 ≤ 3 := (by have u0 := b440_; have u1 := (zi_eq _ _).mp c441_; have u2 := (show 3 ≤ Int32.toInt 3 ∧ Int32.toInt 3 ≤ 3 from (by decide)); omega)
                              refine pw_callT hT (as := [pvI 6, pvI 3]) (lo1 := [some (pvI 6), some (pvI 3), none, none]) (d1 := d) (rest := []) rfl rfl rfl rfl rfl (fun h => absurd h (by decide)) (Nat.zero_le _) rfl rfl rfl (se_X3_isUnder_6_3 M hok d) ?_
                              show PW 203 d (45, [some (pvR 0), some (pvI n1), some (pvI n2), some (pvI (M.1 (pvbs 10 + Int32.toNatClampNeg n1) 0))], [pvI 1], M) _
                              refine pw_if hT (c := 1 = 0) rfl rfl (fun c448_ => absurd c448_ (by decide)) (fun c448_ => ?_)
                              refine pw_blk hT 2 (S' := (54, [some (pvR 0), some (pvI n1), some (pvI n2), some (pvI (M.1 (pvbs 10 + Int32.toNatClampNeg n1) 0))], [pvI (M.1 (pvbs 10 + Int32.toNatClampNeg n1) 0)], M)) rfl ⟨trivial, trivial, trivial⟩ ?_
                              exact pw_ret hT rfl (r := some (pvI (M.1 (pvbs 10 + Int32.toNatClampNeg n1) 0))) (M' := M) ⟨rfl, rfl⟩ ⟨⟨_, rfl, (zr_wide b413_ (by decide) (by decide)), (by rw [if_neg c6_, if_neg c10_, if_neg c20_, if_neg c25_, if_neg c36_, if_neg c99_, if_neg c162_, if_neg c225_, if_neg c288_, if_neg c351_, if_neg c414_, if_neg c423_, if_neg c432_, if_pos c441_]; first | done | (rw [if_pos c441_]; done))⟩, rfl⟩
                            · have b449_ : 4 ≤ Int32.toInt n2 ∧ Int32.toInt n2 ≤ 6 := (by have u0 := b440_; have u1 := (not_congr (zi_eq _ _)).mp c441_; have u2 := (show 3 ≤ Int32.toInt 3 ∧ Int32.toInt 3 ≤ 3 from (by decide)); omega)
                              by_cases c450_ : n2 = 4
                              · refine pw_eqI c450_ ?_
                                have b451_ : 4 ≤ Int32.toInt n2 ∧ Int32.toInt n2 ≤ 4 := (by have u0 := b449_; have u1 := (zi_eq _ _).mp c450_; have u2 := (show 4 ≤ Int32.toInt 4 ∧ Int32.toInt 4 ≤ 4 from (by decide)); omega)
                                refine pw_callT hT (as := [pvI 6, pvI 4]) (lo1 := [some (pvI 6), some (pvI 4), none, none]) (d1 := d) (rest := []) rfl rfl rfl rfl rfl (fun h => absurd h (by decide)) (Nat.zero_le _) rfl rfl rfl (se_X3_isUnder_6_4 M hok d) ?_
                                show PW 203 d (45, [some (pvR 0), some (pvI n1), some (pvI n2), some (pvI (M.1 (pvbs 10 + Int32.toNatClampNeg n1) 0))], [pvI 0], M) _
                                refine pw_if hT (c := 0 = 0) rfl rfl (fun c457_ => ?_) (fun c457_ => absurd (by decide) c457_)
                                refine pw_blk hT 1 (S' := (54, [some (pvR 0), some (pvI n1), some (pvI n2), some (pvI (M.1 (pvbs 10 + Int32.toNatClampNeg n1) 0))], [pvI (-12)], M)) rfl ⟨trivial, trivial⟩ ?_
                                exact pw_ret hT rfl (r := some (pvI (-12))) (M' := M) ⟨rfl, rfl⟩ ⟨⟨_, rfl, (zr_wide (show (-12) ≤ Int32.toInt (-12) ∧ Int32.toInt (-12) ≤ (-12) from (by decide)) (by decide) (by decide)), (by rw [if_neg c6_, if_neg c10_, if_neg c20_, if_neg c25_, if_neg c36_, if_neg c99_, if_neg c162_, if_neg c225_, if_neg c288_, if_neg c351_, if_neg c414_, if_neg c423_, if_neg c432_, if_neg c441_, if_pos c450_]; first | done | (rw [if_pos c450_]; done))⟩, rfl⟩
                              · have b458_ : 5 ≤ Int32.toInt n2 ∧ Int32.toInt n2 ≤ 6 := (by have u0 := b449_; have u1 := (not_congr (zi_eq _ _)).mp c450_; have u2 := (show 4 ≤ Int32.toInt 4 ∧ Int32.toInt 4 ≤ 4 from (by decide)); omega)
                                by_cases c459_ : n2 = 5
                                · refine pw_eqI c459_ ?_
                                  have b460_ : 5 ≤ Int32.toInt n2 ∧ Int32.toInt n2 ≤ 5 := (by have u0 := b458_; have u1 := (zi_eq _ _).mp c459_; have u2 := (show 5 ≤ Int32.toInt 5 ∧ Int32.toInt 5 ≤ 5 from (by decide)); omega)
                                  refine pw_callT hT (as := [pvI 6, pvI 5]) (lo1 := [some (pvI 6), some (pvI 5), none, none]) (d1 := d) (rest := []) rfl rfl rfl rfl rfl (fun h => absurd h (by decide)) (Nat.zero_le _) rfl rfl rfl (se_X3_isUnder_6_5 M hok d) ?_
                                  show PW 203 d (45, [some (pvR 0), some (pvI n1), some (pvI n2), some (pvI (M.1 (pvbs 10 + Int32.toNatClampNeg n1) 0))], [pvI 0], M) _
                                  refine pw_if hT (c := 0 = 0) rfl rfl (fun c466_ => ?_) (fun c466_ => absurd (by decide) c466_)
                                  refine pw_blk hT 1 (S' := (54, [some (pvR 0), some (pvI n1), some (pvI n2), some (pvI (M.1 (pvbs 10 + Int32.toNatClampNeg n1) 0))], [pvI (-12)], M)) rfl ⟨trivial, trivial⟩ ?_
                                  exact pw_ret hT rfl (r := some (pvI (-12))) (M' := M) ⟨rfl, rfl⟩ ⟨⟨_, rfl, (zr_wide (show (-12) ≤ Int32.toInt (-12) ∧ Int32.toInt (-12) ≤ (-12) from (by decide)) (by decide) (by decide)), (by rw [if_neg c6_, if_neg c10_, if_neg c20_, if_neg c25_, if_neg c36_, if_neg c99_, if_neg c162_, if_neg c225_, if_neg c288_, if_neg c351_, if_neg c414_, if_neg c423_, if_neg c432_, if_neg c441_, if_neg c450_, if_pos c459_]; first | done | (rw [if_pos c459_]; done))⟩, rfl⟩
                                · have b467_ : 6 ≤ Int32.toInt n2 ∧ Int32.toInt n2 ≤ 6 := (by have u0 := b458_; have u1 := (not_congr (zi_eq _ _)).mp c459_; have u2 := (show 5 ≤ Int32.toInt 5 ∧ Int32.toInt 5 ≤ 5 from (by decide)); omega)
                                  refine pw_eqI ((zi_eq _ (6)).mpr (by have u0 := b467_; have u1 : Int32.toInt (6) = 6 := (by decide); omega)) ?_
                                  refine pw_callT hT (as := [pvI 6, pvI 6]) (lo1 := [some (pvI 6), some (pvI 6), none, none]) (d1 := d) (rest := []) rfl rfl rfl rfl rfl (fun h => absurd h (by decide)) (Nat.zero_le _) rfl rfl rfl (se_X3_isUnder_6_6 M hok d) ?_
                                  show PW 203 d (45, [some (pvR 0), some (pvI n1), some (pvI n2), some (pvI (M.1 (pvbs 10 + Int32.toNatClampNeg n1) 0))], [pvI 1], M) _
                                  refine pw_if hT (c := 1 = 0) rfl rfl (fun c473_ => absurd c473_ (by decide)) (fun c473_ => ?_)
                                  refine pw_blk hT 2 (S' := (54, [some (pvR 0), some (pvI n1), some (pvI n2), some (pvI (M.1 (pvbs 10 + Int32.toNatClampNeg n1) 0))], [pvI (M.1 (pvbs 10 + Int32.toNatClampNeg n1) 0)], M)) rfl ⟨trivial, trivial, trivial⟩ ?_
                                  exact pw_ret hT rfl (r := some (pvI (M.1 (pvbs 10 + Int32.toNatClampNeg n1) 0))) (M' := M) ⟨rfl, rfl⟩ ⟨⟨_, rfl, (zr_wide b413_ (by decide) (by decide)), (by rw [if_neg c6_, if_neg c10_, if_neg c20_, if_neg c25_, if_neg c36_, if_neg c99_, if_neg c162_, if_neg c225_, if_neg c288_, if_neg c351_, if_neg c414_, if_neg c423_, if_neg c432_, if_neg c441_, if_neg c450_, if_neg c459_]; first | done | (rw [if_neg c459_]; done))⟩, rfl⟩
