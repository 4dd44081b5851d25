def fpL_eX10_tape_124_x_x_x : List (Nat × Nat × Nat) := [(0, 164, 0), (0, 165, 0)]
def fp_eX10_tape_124_x_x_x (q k : Nat) : Bool := pvfp fpL_eX10_tape_124_x_x_x q k
set_option maxHeartbeats 4000000 in
set_option maxRecDepth 10000 in
theorem se_X10_tape_124_x_x_x (M : pvM) (hok : pvOk M) (n1 : Int32) (n2 : Int32) (n3 : Int32) (d : Nat) : PW 89 d (0, [some (pvR 124), some (pvI n1), some (pvI n2), some (pvI n3), none], [], M) (fun r X => (∃ x : Int32, r = some (pvI x) ∧ ((-14) ≤ Int32.toInt x ∧ Int32.toInt x ≤ 1) ∧ x = (if n1 < 0 then (-1) else (if 5 < n1 then (-1) else (if n2 < (-1) then (-2) else (if 4 < n2 then (-2) else (if n2 < 0 then 1 else (if n3 ≤ 60 then (if 0 ≤ n3 then 1 else (-14)) else (-2)))))))) ∧ pvOk X ∧ pvFr fp_eX10_tape_124_x_x_x M X) := by
  have hT : pvdom 89 = pvD_89 := rfl
  refine pw_blk hT 2 (S' := (2, [some (pvR 124), some (pvI n1), some (pvI n2), some (pvI n3), none], [pvI n1, pvR 124], M)) rfl ⟨trivial, trivial, trivial⟩ ?_
  refine pw_callT hT (as := [pvR 124, pvI n1]) (lo1 := [some (pvR 124), some (pvI n1)]) (d1 := d) (rest := []) rfl rfl rfl rfl rfl (fun _ => rfl) (Nat.zero_le _) rfl rfl rfl (sf_X10_isTape_124_x M hok n1 d) ?_
  by_cases c6_ : n1 < 0
  · refine pw_eqI (if_pos c6_) ?_
    have b7_ : (-2147483648) ≤ Int32.toInt n1 ∧ Int32.toInt n1 ≤ (-1) := zr_lt_l (-1) c6_ (zbnd n1) (show 0 ≤ Int32.toInt 0 ∧ Int32.toInt 0 ≤ 0 from (by decide)) (by decide)
    show PW 89 d (5, [some (pvR 124), some (pvI n1), some (pvI n2), some (pvI n3), none], [pvI 0], M) _
    refine pw_ifn hT (c := 0 = 0) rfl rfl (fun c8_ => absurd (by decide) c8_) (fun c8_ => ?_)
    refine pw_blk hT 1 (S' := (9, [some (pvR 124), some (pvI n1), some (pvI n2), some (pvI n3), none], [pvI (-1)], M)) rfl ⟨trivial, trivial⟩ ?_
    exact pw_ret hT rfl (r := some (pvI (-1))) (M' := M) ⟨rfl, rfl⟩ ⟨⟨_, rfl, (zr_wide (show (-1) ≤ Int32.toInt (-1) ∧ Int32.toInt (-1) ≤ (-1) from (by decide)) (by decide) (by decide)), (by rw [if_pos c6_]; first | done | (rw [if_pos c6_]; done))⟩, hok, pvfr_0⟩
  · refine pw_eqI (if_neg c6_) ?_
    have b9_ : 0 ≤ Int32.toInt n1 ∧ Int32.toInt n1 ≤ 2147483647 := zr_nlt_l 0 c6_ (zbnd n1) (show 0 ≤ Int32.toInt 0 ∧ Int32.toInt 0 ≤ 0 from (by decide)) (by decide)
    by_cases c10_ : 5 < n1
    · refine pw_eqI (if_pos c10_) ?_
      have b11_ : 6 ≤ Int32.toInt n1 ∧ Int32.toInt n1 ≤ 2147483647 := zr_lt_r 6 c10_ b9_ (show 5 ≤ Int32.toInt 5 ∧ Int32.toInt 5 ≤ 5 from (by decide)) (by decide)
      show PW 89 d (5, [some (pvR 124), some (pvI n1), some (pvI n2), some (pvI n3), none], [pvI 0], M) _
      refine pw_ifn hT (c := 0 = 0) rfl rfl (fun c12_ => absurd (by decide) c12_) (fun c12_ => ?_)
      refine pw_blk hT 1 (S' := (9, [some (pvR 124), some (pvI n1), some (pvI n2), some (pvI n3), none], [pvI (-1)], M)) rfl ⟨trivial, trivial⟩ ?_
      exact pw_ret hT rfl (r := some (pvI (-1))) (M' := M) ⟨rfl, rfl⟩ ⟨⟨_, rfl, (zr_wide (show (-1) ≤ Int32.toInt (-1) ∧ Int32.toInt (-1) ≤ (-1) from (by decide)) (by decide) (by decide)), (by rw [if_neg c6_, if_pos c10_]; first | done | (rw [if_pos c10_]; done))⟩, hok, pvfr_0⟩
    · refine pw_eqI (if_neg c10_) ?_
      have b13_ : 0 ≤ Int32.toInt n1 ∧ Int32.toInt n1 ≤ 5 := zr_nlt_r 5 c10_ b9_ (show 5 ≤ Int32.toInt 5 ∧ Int32.toInt 5 ≤ 5 from (by decide)) (by decide)
      show PW 89 d (5, [some (pvR 124), some (pvI n1), some (pvI n2), some (pvI n3), none], [pvI 1], M) _
      refine pw_ifn hT (c := 1 = 0) rfl rfl (fun c14_ => ?_) (fun c14_ => absurd c14_ (by decide))
      refine pw_blk hT 4 (S' := (14, [some (pvR 124), some (pvI n1), some (pvI n2), some (pvI n3), none], [pvI 4, pvI (-1), pvI n2, pvR 124], M)) rfl ⟨trivial, trivial, trivial, trivial, trivial⟩ ?_
      refine pw_callT hT (as := [pvR 124, pvI n2, pvI (-1), pvI 4]) (lo1 := [some (pvR 124), some (pvI n2), some (pvI (-1)), some (pvI 4)]) (d1 := d) (rest := []) rfl rfl rfl rfl rfl (fun _ => rfl) (Nat.zero_le _) rfl rfl rfl (sf_X10_in_124_x_x_x M hok n2 (-1) 4 d) ?_
      by_cases c20_ : n2 < (-1)
      · refine pw_eqI (if_pos c20_) ?_
        have b21_ : (-2147483648) ≤ Int32.toInt n2 ∧ Int32.toInt n2 ≤ (-2) := zr_lt_l (-2) c20_ (zbnd n2) (show (-1) ≤ Int32.toInt (-1) ∧ Int32.toInt (-1) ≤ (-1) from (by decide)) (by decide)
        show PW 89 d (17, [some (pvR 124), some (pvI n1), some (pvI n2), some (pvI n3), none], [pvI 0], M) _
        refine pw_if hT (c := 0 = 0) rfl rfl (fun c22_ => ?_) (fun c22_ => absurd (by decide) c22_)
        refine pw_blk hT 1 (S' := (32, [some (pvR 124), some (pvI n1), some (pvI n2), some (pvI n3), none], [pvI (-2)], M)) rfl ⟨trivial, trivial⟩ ?_
        exact pw_ret hT rfl (r := some (pvI (-2))) (M' := M) ⟨rfl, rfl⟩ ⟨⟨_, rfl, (zr_wide (show (-2) ≤ Int32.toInt (-2) ∧ Int32.toInt (-2) ≤ (-2) from (by decide)) (by decide) (by decide)), (by rw [if_neg c6_, if_neg c10_, if_pos c20_]; first | done | (rw [if_pos c20_]; done))⟩, hok, pvfr_0⟩
      · refine pw_eqI (if_neg c20_) ?_
        have b23_ : (-1) ≤ Int32.toInt n2 ∧ Int32.toInt n2 ≤ 2147483647 := zr_nlt_l (-1) c20_ (zbnd n2) (show (-1) ≤ Int32.toInt (-1) ∧ Int32.toInt (-1) ≤ (-1) from (by decide)) (by decide)
        by_cases c24_ : 4 < n2
        · refine pw_eqI (if_pos c24_) ?_
          have b25_ : 5 ≤ Int32.toInt n2 ∧ Int32.toInt n2 ≤ 2147483647 := zr_lt_r 5 c24_ b23_ (show 4 ≤ Int32.toInt 4 ∧ Int32.toInt 4 ≤ 4 from (by decide)) (by decide)
          show PW 89 d (17, [some (pvR 124), some (pvI n1), some (pvI n2), some (pvI n3), none], [pvI 0], M) _
          refine pw_if hT (c := 0 = 0) rfl rfl (fun c26_ => ?_) (fun c26_ => absurd (by decide) c26_)
          refine pw_blk hT 1 (S' := (32, [some (pvR 124), some (pvI n1), some (pvI n2), some (pvI n3), none], [pvI (-2)], M)) rfl ⟨trivial, trivial⟩ ?_
          exact pw_ret hT rfl (r := some (pvI (-2))) (M' := M) ⟨rfl, rfl⟩ ⟨⟨_, rfl, (zr_wide (show (-2) ≤ Int32.toInt (-2) ∧ Int32.toInt (-2) ≤ (-2) from (by decide)) (by decide) (by decide)), (by rw [if_neg c6_, if_neg c10_, if_neg c20_, if_pos c24_]; first | done | (rw [if_pos c24_]; done))⟩, hok, pvfr_0⟩
        · refine pw_eqI (if_neg c24_) ?_
          have b27_ : (-1) ≤ Int32.toInt n2 ∧ Int32.toInt n2 ≤ 4 := zr_nlt_r 4 c24_ b23_ (show 4 ≤ Int32.toInt 4 ∧ Int32.toInt 4 ≤ 4 from (by decide)) (by decide)
          show PW 89 d (17, [some (pvR 124), some (pvI n1), some (pvI n2), some (pvI n3), none], [pvI 1], M) _
          refine pw_if hT (c := 1 = 0) rfl rfl (fun c28_ => absurd c28_ (by decide)) (fun c28_ => ?_)
          refine pw_blk hT 1 (S' := (21, [some (pvR 124), some (pvI n1), some (pvI n2), some (pvI n3), none], [pvI n2], M)) rfl ⟨trivial, trivial⟩ ?_
          refine pw_if hT (c := n2 < 0) rfl rfl (fun c29_ => ?_) (fun c29_ => ?_)
          · have b30_ : (-1) ≤ Int32.toInt n2 ∧ Int32.toInt n2 ≤ (-1) := zr_lt_l (-1) c29_ b27_ (show 0 ≤ Int32.toInt 0 ∧ Int32.toInt 0 ≤ 0 from (by decide)) (by decide)
            refine pw_blk hT 1 (S' := (34, [some (pvR 124), some (pvI n1), some (pvI n2), some (pvI n3), none], [pvI n2], M)) rfl ⟨trivial, trivial⟩ ?_
            refine pw_if hT (c := n2 < 0) rfl rfl (fun c31_ => ?_) (fun c31_ => absurd c29_ c31_)
            refine pw_blkw hT 5 (pc := 51) (lo := [some (pvR 124), some (pvI n1), some (pvI n2), some (pvI n3), none]) (st := []) (M := pvu M 164 (Int32.toNatClampNeg n1) n2) rfl ⟨trivial, rfl, trivial, trivial, ⟨rfl, (zr_in (n := 6) b13_ (by decide) (by decide))⟩, trivial⟩ (fun M32_ e33_ => ?_)
            have o34_ : pvOk M32_ := pvok_u2 e33_ hok rfl (zr_wide b30_ (by decide) (by decide))
            have f35_ : pvFr fp_eX10_tape_124_x_x_x M M32_ := pvfr_u e33_ pvfr_0 rfl
            refine pw_blk hT 4 (S' := (57, [some (pvR 124), some (pvI n1), some (pvI n2), some (pvI n3), none], [pvI n2, pvI n1, pvR 165], M32_)) rfl ⟨trivial, rfl, trivial, trivial, trivial⟩ ?_
            refine pw_if hT (c := 0 ≤ n2) rfl rfl (fun c36_ => absurd c36_ (by have z0 := (show 0 ≤ Int32.toInt 0 ∧ Int32.toInt 0 ≤ 0 from (by decide)); have z1 := b30_; rw [zi_le]; omega)) (fun c36_ => ?_)
            refine pw_blkw hT 3 (pc := 66) (lo := [some (pvR 124), some (pvI n1), some (pvI n2), some (pvI n3), none]) (st := []) (M := pvu M32_ 165 (Int32.toNatClampNeg n1) 0) rfl ⟨trivial, trivial, ⟨rfl, (zr_in (n := 6) b13_ (by decide) (by decide))⟩, trivial⟩ (fun M37_ e38_ => ?_)
            have o39_ : pvOk M37_ := pvok_u2 e38_ o34_ rfl (zr_wide (show 0 ≤ Int32.toInt 0 ∧ Int32.toInt 0 ≤ 0 from (by decide)) (by decide) (by decide))
            have f40_ : pvFr fp_eX10_tape_124_x_x_x M M37_ := pvfr_u e38_ f35_ rfl
            refine pw_blk hT 2 (S' := (69, [some (pvR 124), some (pvI n1), some (pvI n2), some (pvI n3), some (pvI 0)], [], M37_)) rfl ⟨trivial, trivial, trivial⟩ ?_
            have hlz95_ : ∀ (nz95_ : Nat) (i4z95_ : Int32) (Mz95_ : pvM), (pvOk Mz95_) → (pvFr fp_eX10_tape_124_x_x_x M Mz95_) → (0 ≤ Int32.toInt i4z95_ ∧ Int32.toInt i4z95_ ≤ 60) → (zhide ((61 - Int32.toInt i4z95_).toNat < nz95_)) → PW 89 d (69, [some (pvR 124), some (pvI n1), some (pvI n2), some (pvI n3), some (pvI i4z95_)], [], Mz95_) (fun r X => (∃ x : Int32, r = some (pvI x) ∧ ((-14) ≤ Int32.toInt x ∧ Int32.toInt x ≤ 1) ∧ x = (if n1 < 0 then (-1) else (if 5 < n1 then (-1) else (if n2 < (-1) then (-2) else (if 4 < n2 then (-2) else (if n2 < 0 then 1 else (if n3 ≤ 60 then (if 0 ≤ n3 then 1 else (-14)) else (-2)))))))) ∧ pvOk X ∧ pvFr fp_eX10_tape_124_x_x_x M X) := by
              intro nz95_
              induction nz95_ with
              | zero => intro i4z95_ Mz95_ oz95_ fz95_ h4z95_ hmz95_; exact absurd (zshow hmz95_) (Nat.not_lt_zero _)
              | succ nz95_ ihz95_ =>
                intro i4z95_ Mz95_ oz95_ fz95_ h4z95_ hmz95_
                refine pw_blk hT 2 (S' := (73, [some (pvR 124), some (pvI n1), some (pvI n2), some (pvI n3), some (pvI i4z95_)], [pvI 60, pvI i4z95_], Mz95_)) rfl ⟨trivial, trivial, trivial⟩ ?_
                refine pw_ic hT (c := 60 ≤ i4z95_) rfl rfl (fun c96_ => ?_) (fun c96_ => ?_)
                · have b97_ : 60 ≤ Int32.toInt i4z95_ ∧ Int32.toInt i4z95_ ≤ 60 := zr_le_r 60 c96_ h4z95_ (show 60 ≤ Int32.toInt 60 ∧ Int32.toInt 60 ≤ 60 from (by decide)) (by decide)
                  refine pw_blk hT 1 (S' := (96, [some (pvR 124), some (pvI n1), some (pvI n2), some (pvI n3), some (pvI i4z95_)], [pvI 1], Mz95_)) rfl ⟨trivial, trivial⟩ ?_
                  exact pw_ret hT rfl (r := some (pvI 1)) (M' := Mz95_) ⟨rfl, rfl⟩ ⟨⟨_, rfl, (zr_wide (show 1 ≤ Int32.toInt 1 ∧ Int32.toInt 1 ≤ 1 from (by decide)) (by decide) (by decide)), (by rw [if_neg c6_, if_neg c10_, if_neg c20_, if_neg c24_, if_pos c29_]; first | done | (rw [if_pos c29_]; done))⟩, oz95_, fz95_⟩
                · have b98_ : 0 ≤ Int32.toInt i4z95_ ∧ Int32.toInt i4z95_ ≤ 59 := zr_nle_r 59 c96_ h4z95_ (show 60 ≤ Int32.toInt 60 ∧ Int32.toInt 60 ≤ 60 from (by decide)) (by decide)
                  have q99_ : Int32.toInt (60 * n1) = 60 * Int32.toInt n1 := by have u0 : Int32.toInt 60 = 60 := (by decide); have u1 := b13_; have u2 := zmul 60 n1 (by rw [u0]; omega) (by rw [u0]; omega); rw [u0] at u2; omega
                  have b100_ : 0 ≤ Int32.toInt (60 * n1) ∧ Int32.toInt (60 * n1) ≤ 300 := (by have u1 := b13_; omega)
                  obtain ⟨q102_, b101_⟩ : (Int32.toInt ((60 * n1) + i4z95_) = Int32.toInt (60 * n1) + Int32.toInt i4z95_) ∧ (0 ≤ Int32.toInt ((60 * n1) + i4z95_) ∧ Int32.toInt ((60 * n1) + i4z95_) ≤ 359) := zadd_r (60 * n1) i4z95_ 0 359 b100_ b98_ (by decide) (by decide) (by decide) (by decide)
                  refine pw_blkw hT 9 (pc := 89) (lo := [some (pvR 124), some (pvI n1), some (pvI n2), some (pvI n3), some (pvI i4z95_)]) (st := []) (M := pvw Mz95_ 166 (Int32.toNatClampNeg ((60 * n1) + i4z95_)) 0) rfl ⟨trivial, rfl, trivial, trivial, trivial, trivial, trivial, trivial, ⟨rfl, (zr_in (n := 360) b101_ (by decide) (by decide))⟩, trivial⟩ (fun M103_ e104_ => ?_)
                  have o105_ : pvOk M103_ := pvok_w e104_ oz95_
                  have f106_ : pvFr fp_eX10_tape_124_x_x_x M M103_ := pvfr_w e104_ fz95_
                  obtain ⟨q108_, b107_⟩ : (Int32.toInt (i4z95_ + 1) = Int32.toInt i4z95_ + 1) ∧ (1 ≤ Int32.toInt (i4z95_ + 1) ∧ Int32.toInt (i4z95_ + 1) ≤ 60) := zadd_k i4z95_ 1 1 1 60 b98_ (by decide) (by decide) (by decide) (by decide) (by decide)
                  refine pw_blk hT 2 (S' := (69, [some (pvR 124), some (pvI n1), some (pvI n2), some (pvI n3), some (pvI (i4z95_ + 1))], [], M103_)) rfl ⟨trivial, trivial, trivial⟩ ?_
                  exact ihz95_ (i4z95_ + 1) M103_ o105_ f106_ (zr_wide b107_ (by decide) (by decide)) (zhid (pvms_up (zshow hmz95_) h4z95_ q108_ (by decide) (by decide)))
            exact hlz95_ _ 0 M37_ o39_ f40_ (zr_wide (show 0 ≤ Int32.toInt 0 ∧ Int32.toInt 0 ≤ 0 from (by decide)) (by decide) (by decide)) (zhid (Nat.lt_succ_self _))
          · have b109_ : 0 ≤ Int32.toInt n2 ∧ Int32.toInt n2 ≤ 4 := zr_nlt_l 0 c29_ b27_ (show 0 ≤ Int32.toInt 0 ∧ Int32.toInt 0 ≤ 0 from (by decide)) (by decide)
            refine pw_blk hT 2 (S' := (27, [some (pvR 124), some (pvI n1), some (pvI n2), some (pvI n3), none], [pvI 60, pvI n3], M)) rfl ⟨trivial, trivial, trivial⟩ ?_
            refine pw_ic hT (c := n3 ≤ 60) rfl rfl (fun c110_ => ?_) (fun c110_ => ?_)
            · have b111_ : (-2147483648) ≤ Int32.toInt n3 ∧ Int32.toInt n3 ≤ 60 := zr_le_l 60 c110_ (zbnd n3) (show 60 ≤ Int32.toInt 60 ∧ Int32.toInt 60 ≤ 60 from (by decide)) (by decide)
              refine pw_blk hT 1 (S' := (34, [some (pvR 124), some (pvI n1), some (pvI n2), some (pvI n3), none], [pvI n2], M)) rfl ⟨trivial, trivial⟩ ?_
              refine pw_if hT (c := n2 < 0) rfl rfl (fun c112_ => absurd c112_ c29_) (fun c112_ => ?_)
              refine pw_blk hT 1 (S' := (38, [some (pvR 124), some (pvI n1), some (pvI n2), some (pvI n3), none], [pvI n3], M)) rfl ⟨trivial, trivial⟩ ?_
              refine pw_if hT (c := 0 ≤ n3) rfl rfl (fun c113_ => ?_) (fun c113_ => ?_)
              · have b114_ : 0 ≤ Int32.toInt n3 ∧ Int32.toInt n3 ≤ 60 := zr_le_r 0 c113_ b111_ (show 0 ≤ Int32.toInt 0 ∧ Int32.toInt 0 ≤ 0 from (by decide)) (by decide)
                refine pw_blkw hT 5 (pc := 51) (lo := [some (pvR 124), some (pvI n1), some (pvI n2), some (pvI n3), none]) (st := []) (M := pvu M 164 (Int32.toNatClampNeg n1) n2) rfl ⟨trivial, rfl, trivial, trivial, ⟨rfl, (zr_in (n := 6) b13_ (by decide) (by decide))⟩, trivial⟩ (fun M115_ e116_ => ?_)
                have o117_ : pvOk M115_ := pvok_u2 e116_ hok rfl (zr_wide b109_ (by decide) (by decide))
                have f118_ : pvFr fp_eX10_tape_124_x_x_x M M115_ := pvfr_u e116_ pvfr_0 rfl
                refine pw_blk hT 4 (S' := (57, [some (pvR 124), some (pvI n1), some (pvI n2), some (pvI n3), none], [pvI n2, pvI n1, pvR 165], M115_)) rfl ⟨trivial, rfl, trivial, trivial, trivial⟩ ?_
                refine pw_if hT (c := 0 ≤ n2) rfl rfl (fun c119_ => ?_) (fun c119_ => absurd (by have z0 := (show 0 ≤ Int32.toInt 0 ∧ Int32.toInt 0 ≤ 0 from (by decide)); have z1 := b109_; rw [zi_le]; omega) c119_)
                refine pw_blkw hT 2 (pc := 66) (lo := [some (pvR 124), some (pvI n1), some (pvI n2), some (pvI n3), none]) (st := []) (M := pvu M115_ 165 (Int32.toNatClampNeg n1) n3) rfl ⟨trivial, ⟨rfl, (zr_in (n := 6) b13_ (by decide) (by decide))⟩, trivial⟩ (fun M120_ e121_ => ?_)
                have o122_ : pvOk M120_ := pvok_u2 e121_ o117_ rfl b114_
                have f123_ : pvFr fp_eX10_tape_124_x_x_x M M120_ := pvfr_u e121_ f118_ rfl
                refine pw_blk hT 2 (S' := (69, [some (pvR 124), some (pvI n1), some (pvI n2), some (pvI n3), some (pvI 0)], [], M120_)) rfl ⟨trivial, trivial, trivial⟩ ?_
                have hlz178_ : ∀ (nz178_ : Nat) (i4z178_ : Int32) (Mz178_ : pvM), (pvOk Mz178_) → (pvFr fp_eX10_tape_124_x_x_x M Mz178_) → (0 ≤ Int32.toInt i4z178_ ∧ Int32.toInt i4z178_ ≤ 60) → (zhide ((61 - Int32.toInt i4z178_).toNat < nz178_)) → PW 89 d (69, [some (pvR 124), some (pvI n1), some (pvI n2), some (pvI n3), some (pvI i4z178_)], [], Mz178_) (fun r X => (∃ x : Int32, r = some (pvI x) ∧ ((-14) ≤ Int32.toInt x ∧ Int32.toInt x ≤ 1) ∧ x = (if n1 < 0 then (-1) else (if 5 < n1 then (-1) else (if n2 < (-1) then (-2) else (if 4 < n2 then (-2) else (if n2 < 0 then 1 else (if n3 ≤ 60 then (if 0 ≤ n3 then 1 else (-14)) else (-2)))))))) ∧ pvOk X ∧ pvFr fp_eX10_tape_124_x_x_x M X) := by
                  intro nz178_
                  induction nz178_ with
                  | zero => intro i4z178_ Mz178_ oz178_ fz178_ h4z178_ hmz178_; exact absurd (zshow hmz178_) (Nat.not_lt_zero _)
                  | succ nz178_ ihz178_ =>
                    intro i4z178_ Mz178_ oz178_ fz178_ h4z178_ hmz178_
                    refine pw_blk hT 2 (S' := (73, [some (pvR 124), some (pvI n1), some (pvI n2), some (pvI n3), some (pvI i4z178_)], [pvI 60, pvI i4z178_], Mz178_)) rfl ⟨trivial, trivial, trivial⟩ ?_
                    refine pw_ic hT (c := 60 ≤ i4z178_) rfl rfl (fun c179_ => ?_) (fun c179_ => ?_)
                    · have b180_ : 60 ≤ Int32.toInt i4z178_ ∧ Int32.toInt i4z178_ ≤ 60 := zr_le_r 60 c179_ h4z178_ (show 60 ≤ Int32.toInt 60 ∧ Int32.toInt 60 ≤ 60 from (by decide)) (by decide)
                      refine pw_blk hT 1 (S' := (96, [some (pvR 124), some (pvI n1), some (pvI n2), some (pvI n3), some (pvI i4z178_)], [pvI 1], Mz178_)) rfl ⟨trivial, trivial⟩ ?_
                      exact pw_ret hT rfl (r := some (pvI 1)) (M' := Mz178_) ⟨rfl, rfl⟩ ⟨⟨_, rfl, (zr_wide (show 1 ≤ Int32.toInt 1 ∧ Int32.toInt 1 ≤ 1 from (by decide)) (by decide) (by decide)), (by rw [if_neg c6_, if_neg c10_, if_neg c20_, if_neg c24_, if_neg c29_, if_pos c110_, if_pos c113_]; first | done | (rw [if_pos c113_]; done))⟩, oz178_, fz178_⟩
                    · have b181_ : 0 ≤ Int32.toInt i4z178_ ∧ Int32.toInt i4z178_ ≤ 59 := zr_nle_r 59 c179_ h4z178_ (show 60 ≤ Int32.toInt 60 ∧ Int32.toInt 60 ≤ 60 from (by decide)) (by decide)
                      have q182_ : Int32.toInt (60 * n1) = 60 * Int32.toInt n1 := by have u0 : Int32.toInt 60 = 60 := (by decide); have u1 := b13_; have u2 := zmul 60 n1 (by rw [u0]; omega) (by rw [u0]; omega); rw [u0] at u2; omega
                      have b183_ : 0 ≤ Int32.toInt (60 * n1) ∧ Int32.toInt (60 * n1) ≤ 300 := (by have u1 := b13_; omega)
                      obtain ⟨q185_, b184_⟩ : (Int32.toInt ((60 * n1) + i4z178_) = Int32.toInt (60 * n1) + Int32.toInt i4z178_) ∧ (0 ≤ Int32.toInt ((60 * n1) + i4z178_) ∧ Int32.toInt ((60 * n1) + i4z178_) ≤ 359) := zadd_r (60 * n1) i4z178_ 0 359 b183_ b181_ (by decide) (by decide) (by decide) (by decide)
                      refine pw_blkw hT 9 (pc := 89) (lo := [some (pvR 124), some (pvI n1), some (pvI n2), some (pvI n3), some (pvI i4z178_)]) (st := []) (M := pvw Mz178_ 166 (Int32.toNatClampNeg ((60 * n1) + i4z178_)) 0) rfl ⟨trivial, rfl, trivial, trivial, trivial, trivial, trivial, trivial, ⟨rfl, (zr_in (n := 360) b184_ (by decide) (by decide))⟩, trivial⟩ (fun M186_ e187_ => ?_)
                      have o188_ : pvOk M186_ := pvok_w e187_ oz178_
                      have f189_ : pvFr fp_eX10_tape_124_x_x_x M M186_ := pvfr_w e187_ fz178_
                      obtain ⟨q191_, b190_⟩ : (Int32.toInt (i4z178_ + 1) = Int32.toInt i4z178_ + 1) ∧ (1 ≤ Int32.toInt (i4z178_ + 1) ∧ Int32.toInt (i4z178_ + 1) ≤ 60) := zadd_k i4z178_ 1 1 1 60 b181_ (by decide) (by decide) (by decide) (by decide) (by decide)
                      refine pw_blk hT 2 (S' := (69, [some (pvR 124), some (pvI n1), some (pvI n2), some (pvI n3), some (pvI (i4z178_ + 1))], [], M186_)) rfl ⟨trivial, trivial, trivial⟩ ?_
                      exact ihz178_ (i4z178_ + 1) M186_ o188_ f189_ (zr_wide b190_ (by decide) (by decide)) (zhid (pvms_up (zshow hmz178_) h4z178_ q191_ (by decide) (by decide)))
                exact hlz178_ _ 0 M120_ o122_ f123_ (zr_wide (show 0 ≤ Int32.toInt 0 ∧ Int32.toInt 0 ≤ 0 from (by decide)) (by decide) (by decide)) (zhid (Nat.lt_succ_self _))
              · have b192_ : (-2147483648) ≤ Int32.toInt n3 ∧ Int32.toInt n3 ≤ (-1) := zr_nle_r (-1) c113_ b111_ (show 0 ≤ Int32.toInt 0 ∧ Int32.toInt 0 ≤ 0 from (by decide)) (by decide)
                refine pw_blk hT 1 (S' := (43, [some (pvR 124), some (pvI n1), some (pvI n2), some (pvI n3), none], [pvI (-14)], M)) rfl ⟨trivial, trivial⟩ ?_
                exact pw_ret hT rfl (r := some (pvI (-14))) (M' := M) ⟨rfl, rfl⟩ ⟨⟨_, rfl, (zr_wide (show (-14) ≤ Int32.toInt (-14) ∧ Int32.toInt (-14) ≤ (-14) from (by decide)) (by decide) (by decide)), (by rw [if_neg c6_, if_neg c10_, if_neg c20_, if_neg c24_, if_neg c29_, if_pos c110_, if_neg c113_]; first | done | (rw [if_neg c113_]; done))⟩, hok, pvfr_0⟩
            · have b193_ : 61 ≤ Int32.toInt n3 ∧ Int32.toInt n3 ≤ 2147483647 := zr_nle_l 61 c110_ (zbnd n3) (show 60 ≤ Int32.toInt 60 ∧ Int32.toInt 60 ≤ 60 from (by decide)) (by decide)
              refine pw_blk hT 1 (S' := (32, [some (pvR 124), some (pvI n1), some (pvI n2), some (pvI n3), none], [pvI (-2)], M)) rfl ⟨trivial, trivial⟩ ?_
              exact pw_ret hT rfl (r := some (pvI (-2))) (M' := M) ⟨rfl, rfl⟩ ⟨⟨_, rfl, (zr_wide (show (-2) ≤ Int32.toInt (-2) ∧ Int32.toInt (-2) ≤ (-2) from (by decide)) (by decide) (by decide)), (by rw [if_neg c6_, if_neg c10_, if_neg c20_, if_neg c24_, if_neg c29_, if_neg c110_]; first | done | (rw [if_neg c110_]; done))⟩, hok, pvfr_0⟩
set_option maxHeartbeats 4000000 in
set_option maxRecDepth 10000 in
theorem se_X10_trace_124_x (M : pvM) (hok : pvOk M) (n1 : Int32) (d : Nat) : PW 92 d (0, [some (pvR 124), some (pvI n1)], [], M) (fun r X => r = some (pvI ((if n1 < 0 then (-1) else (if 19 < n1 then (-1) else (if (M.1 124 70) ≤ n1 then (-1) else (M.1 163 (Int32.toNatClampNeg n1))))))) ∧ X = M) := by
  have hT : pvdom 92 = pvD_92 := rfl
  refine pw_blk hT 4 (S' := (5, [some (pvR 124), some (pvI n1)], [pvI 19, pvI 0, pvI n1, pvR 124], M)) rfl ⟨trivial, trivial, trivial, trivial, trivial⟩ ?_
  refine pw_callT hT (as := [pvR 124, pvI n1, pvI 0, pvI 19]) (lo1 := [some (pvR 124), some (pvI n1), some (pvI 0), some (pvI 19)]) (d1 := d) (rest := []) rfl rfl rfl rfl rfl (fun _ => rfl) (Nat.zero_le _) rfl rfl rfl (sf_X10_in_124_x_x_x M hok n1 0 19 d) ?_
  by_cases c6_ : n1 < 0
  · refine pw_eqI (if_pos c6_) ?_
    have b7_ : (-2147483648) ≤ Int32.toInt n1 ∧ Int32.toInt n1 ≤ (-1) := zr_lt_l (-1) c6_ (zbnd n1) (show 0 ≤ Int32.toInt 0 ∧ Int32.toInt 0 ≤ 0 from (by decide)) (by decide)
    show PW 92 d (8, [some (pvR 124), some (pvI n1)], [pvI 0], M) _
    refine pw_if hT (c := 0 = 0) rfl rfl (fun c8_ => ?_) (fun c8_ => absurd (by decide) c8_)
    refine pw_blk hT 1 (S' := (29, [some (pvR 124), some (pvI n1)], [pvI (-1)], M)) rfl ⟨trivial, trivial⟩ ?_
    exact pw_ret hT rfl (r := some (pvI (-1))) (M' := M) ⟨rfl, rfl⟩ ⟨(by rw [if_pos c6_]; first | done | (rw [if_pos c6_]; done)), rfl⟩
  · refine pw_eqI (if_neg c6_) ?_
    have b9_ : 0 ≤ Int32.toInt n1 ∧ Int32.toInt n1 ≤ 2147483647 := zr_nlt_l 0 c6_ (zbnd n1) (show 0 ≤ Int32.toInt 0 ∧ Int32.toInt 0 ≤ 0 from (by decide)) (by decide)
    by_cases c10_ : 19 < n1
    · refine pw_eqI (if_pos c10_) ?_
      have b11_ : 20 ≤ Int32.toInt n1 ∧ Int32.toInt n1 ≤ 2147483647 := zr_lt_r 20 c10_ b9_ (show 19 ≤ Int32.toInt 19 ∧ Int32.toInt 19 ≤ 19 from (by decide)) (by decide)
      show PW 92 d (8, [some (pvR 124), some (pvI n1)], [pvI 0], M) _
      refine pw_if hT (c := 0 = 0) rfl rfl (fun c12_ => ?_) (fun c12_ => absurd (by decide) c12_)
      refine pw_blk hT 1 (S' := (29, [some (pvR 124), some (pvI n1)], [pvI (-1)], M)) rfl ⟨trivial, trivial⟩ ?_
      exact pw_ret hT rfl (r := some (pvI (-1))) (M' := M) ⟨rfl, rfl⟩ ⟨(by rw [if_neg c6_, if_pos c10_]; first | done | (rw [if_pos c10_]; done)), rfl⟩
    · refine pw_eqI (if_neg c10_) ?_
      have b13_ : 0 ≤ Int32.toInt n1 ∧ Int32.toInt n1 ≤ 19 := zr_nlt_r 19 c10_ b9_ (show 19 ≤ Int32.toInt 19 ∧ Int32.toInt 19 ≤ 19 from (by decide)) (by decide)
      show PW 92 d (8, [some (pvR 124), some (pvI n1)], [pvI 1], M) _
      refine pw_if hT (c := 1 = 0) rfl rfl (fun c14_ => absurd c14_ (by decide)) (fun c14_ => ?_)
      have b15_ : 0 ≤ Int32.toInt (M.1 124 70) ∧ Int32.toInt (M.1 124 70) ≤ 1000000 := pvok_r hok 124 70 rfl
      refine pw_blk hT 3 (S' := (16, [some (pvR 124), some (pvI n1)], [pvI (M.1 124 70), pvI n1], M)) rfl ⟨trivial, trivial, rfl, trivial⟩ ?_
      refine pw_ic hT (c := (M.1 124 70) ≤ n1) rfl rfl (fun c16_ => ?_) (fun c16_ => ?_)
      · have b17_ : 0 ≤ Int32.toInt (M.1 124 70) ∧ Int32.toInt (M.1 124 70) ≤ 19 := zr_le_l 19 c16_ b15_ b13_ (by decide)
        have d18_ : Int32.toInt (M.1 124 70) ≤ Int32.toInt n1 := (zi_le _ _).mp c16_
        refine pw_blk hT 1 (S' := (29, [some (pvR 124), some (pvI n1)], [pvI (-1)], M)) rfl ⟨trivial, trivial⟩ ?_
        exact pw_ret hT rfl (r := some (pvI (-1))) (M' := M) ⟨rfl, rfl⟩ ⟨(by rw [if_neg c6_, if_neg c10_, if_pos c16_]; first | done | (rw [if_pos c16_]; done)), rfl⟩
      · have b19_ : 1 ≤ Int32.toInt (M.1 124 70) ∧ Int32.toInt (M.1 124 70) ≤ 1000000 := zr_nle_l 1 c16_ b15_ b13_ (by decide)
        have d20_ : Int32.toInt (M.1 124 70) > Int32.toInt n1 := Int.not_le.mp ((not_congr (zi_le _ _)).mp c16_)
        refine pw_blk hT 5 (S' := (29, [some (pvR 124), some (pvI n1)], [pvI (M.1 163 (Int32.toNatClampNeg n1))], M)) rfl ⟨trivial, rfl, trivial, ⟨rfl, (zr_in (n := 20) b13_ (by decide) (by decide))⟩, trivial, trivial⟩ ?_
        exact pw_ret hT rfl (r := some (pvI (M.1 163 (Int32.toNatClampNeg n1)))) (M' := M) ⟨rfl, rfl⟩ ⟨(by rw [if_neg c6_, if_neg c10_, if_neg c16_]; first | done | (rw [if_neg c16_]; done)), rfl⟩
def fpL_eX10_undo_124 : List (Nat × Nat × Nat) := [(0, 124, 1), (0, 124, 2), (0, 124, 16), (0, 124, 3), (0, 124, 4), (0, 124, 38), (0, 124, 5), (0, 124, 41), (0, 124, 44), (0, 124, 6), (0, 124, 7), (0, 125, 0), (0, 126, 0), (0, 127, 0), (0, 128, 0), (0, 129, 0), (0, 130, 0), (0, 131, 0), (0, 145, 0), (0, 147, 0), (0, 148, 0), (0, 149, 0), (0, 150, 0)]
def fp_eX10_undo_124 (q k : Nat) : Bool := pvfp fpL_eX10_undo_124 q k
set_option maxHeartbeats 4000000 in
set_option maxRecDepth 10000 in
theorem se_X10_undo_124 (M : pvM) (hok : pvOk M) (d : Nat) : PW 94 d (0, [some (pvR 124), none], [], M) (fun r X => (∃ x : Int32, r = some (pvI x) ∧ ((-3) ≤ Int32.toInt x ∧ Int32.toInt x ≤ 7) ∧ x = (if (M.1 124 46) = 0 then (-3) else (M.1 124 48))) ∧ pvOk X ∧ pvFr fp_eX10_undo_124 M X ∧ ((pvWF M → pvWF X) ∧ (Int32.toInt (M.1 124 51) ≤ 99 → Int32.toInt (M.1 124 3) ≤ 99 → Int32.toInt (X.1 124 3) ≤ 99)) ∧ zU10 M X ∧ X.1 124 0 = (if (M.1 124 46) = 0 then (M.1 124 0) else (M.1 124 48)) ∧ X.1 124 3 = (if (M.1 124 46) = 0 then (M.1 124 3) else (M.1 124 51)) ∧ X.1 124 4 = (if (M.1 124 46) = 0 then (M.1 124 4) else (M.1 124 52)) ∧ X.1 124 40 = (if (M.1 124 46) = 0 then (M.1 124 40) else (M.1 124 56)) ∧ X.1 124 43 = (if (M.1 124 46) = 0 then (M.1 124 43) else (M.1 124 57))) := by
  have hT : pvdom 94 = pvD_94 := rfl
  have b1_ : 0 ≤ Int32.toInt (M.1 124 46) ∧ Int32.toInt (M.1 124 46) ≤ 1 := pvok_r hok 124 46 rfl
  refine pw_blk hT 2 (S' := (4, [some (pvR 124), none], [pvI (M.1 124 46)], M)) rfl ⟨trivial, rfl, trivial⟩ ?_
  refine pw_ifn hT (c := (M.1 124 46) = 0) rfl rfl (fun c2_ => ?_) (fun c2_ => ?_)
  · have b3_ : 1 ≤ Int32.toInt (M.1 124 46) ∧ Int32.toInt (M.1 124 46) ≤ 1 := (by have u0 := b1_; have u1 := (not_congr (zi_eq _ _)).mp c2_; have u2 := (show 0 ≤ Int32.toInt 0 ∧ Int32.toInt 0 ≤ 0 from (by decide)); omega)
    have b4_ : (-1) ≤ Int32.toInt (M.1 124 47) ∧ Int32.toInt (M.1 124 47) ≤ 5 := pvok_r hok 124 47 rfl
    refine pw_blkw hT 4 (pc := 18) (lo := [some (pvR 124), none]) (st := []) (M := pvu M 124 15 (M.1 124 47)) rfl ⟨trivial, trivial, rfl, rfl, trivial⟩ (fun M5_ e6_ => ?_)
    have o7_ : pvOk M5_ := pvok_u2 e6_ hok rfl b4_
    have f8_ : pvFr fp_eX10_undo_124 M M5_ := pvfr_u e6_ pvfr_0 rfl
    have b9_ : 0 ≤ Int32.toInt (M5_.1 124 48) ∧ Int32.toInt (M5_.1 124 48) ≤ 7 := pvok_r o7_ 124 48 rfl
    refine pw_blkw hT 4 (pc := 26) (lo := [some (pvR 124), none]) (st := []) (M := pvu M5_ 124 0 (M5_.1 124 48)) rfl ⟨trivial, trivial, rfl, rfl, trivial⟩ (fun M10_ e11_ => ?_)
    have o12_ : pvOk M10_ := pvok_u2 e11_ o7_ rfl b9_
    have f13_ : pvFr fp_eX10_undo_124 M M10_ := pvfr_u e11_ f8_ rfl
    have b14_ : 0 ≤ Int32.toInt (M10_.1 124 49) ∧ Int32.toInt (M10_.1 124 49) ≤ 9999 := pvok_r o12_ 124 49 rfl
    refine pw_blkw hT 4 (pc := 34) (lo := [some (pvR 124), none]) (st := []) (M := pvu M10_ 124 1 (M10_.1 124 49)) rfl ⟨trivial, trivial, rfl, rfl, trivial⟩ (fun M15_ e16_ => ?_)
    have o17_ : pvOk M15_ := pvok_u2 e16_ o12_ rfl b14_
    have f18_ : pvFr fp_eX10_undo_124 M M15_ := pvfr_u e16_ f13_ rfl
    have b19_ : 0 ≤ Int32.toInt (M15_.1 124 50) ∧ Int32.toInt (M15_.1 124 50) ≤ 999999 := pvok_r o17_ 124 50 rfl
    refine pw_blkw hT 4 (pc := 42) (lo := [some (pvR 124), none]) (st := []) (M := pvu M15_ 124 2 (M15_.1 124 50)) rfl ⟨trivial, trivial, rfl, rfl, trivial⟩ (fun M20_ e21_ => ?_)
    have o22_ : pvOk M20_ := pvok_u2 e21_ o17_ rfl b19_
    have f23_ : pvFr fp_eX10_undo_124 M M20_ := pvfr_u e21_ f18_ rfl
    have b24_ : 0 ≤ Int32.toInt (M20_.1 124 51) ∧ Int32.toInt (M20_.1 124 51) ≤ 108 := pvok_r o22_ 124 51 rfl
    refine pw_blkw hT 4 (pc := 50) (lo := [some (pvR 124), none]) (st := []) (M := pvu M20_ 124 3 (M20_.1 124 51)) rfl ⟨trivial, trivial, rfl, rfl, trivial⟩ (fun M25_ e26_ => ?_)
    have o27_ : pvOk M25_ := pvok_u2 e26_ o22_ rfl b24_
    have f28_ : pvFr fp_eX10_undo_124 M M25_ := pvfr_u e26_ f23_ rfl
    have b29_ : 0 ≤ Int32.toInt (M25_.1 124 52) ∧ Int32.toInt (M25_.1 124 52) ≤ 4 := pvok_r o27_ 124 52 rfl
    refine pw_blkw hT 4 (pc := 58) (lo := [some (pvR 124), none]) (st := []) (M := pvu M25_ 124 4 (M25_.1 124 52)) rfl ⟨trivial, trivial, rfl, rfl, trivial⟩ (fun M30_ e31_ => ?_)
    have o32_ : pvOk M30_ := pvok_u2 e31_ o27_ rfl b29_
    have f33_ : pvFr fp_eX10_undo_124 M M30_ := pvfr_u e31_ f28_ rfl
    have b34_ : 0 ≤ Int32.toInt (M30_.1 124 53) ∧ Int32.toInt (M30_.1 124 53) ≤ 3 := pvok_r o32_ 124 53 rfl
    refine pw_blkw hT 4 (pc := 66) (lo := [some (pvR 124), none]) (st := []) (M := pvu M30_ 124 5 (M30_.1 124 53)) rfl ⟨trivial, trivial, rfl, rfl, trivial⟩ (fun M35_ e36_ => ?_)
    have o37_ : pvOk M35_ := pvok_u2 e36_ o32_ rfl b34_
    have f38_ : pvFr fp_eX10_undo_124 M M35_ := pvfr_u e36_ f33_ rfl
    have b39_ : 0 ≤ Int32.toInt (M35_.1 124 54) ∧ Int32.toInt (M35_.1 124 54) ≤ 4 := pvok_r o37_ 124 54 rfl
    refine pw_blkw hT 4 (pc := 74) (lo := [some (pvR 124), none]) (st := []) (M := pvu M35_ 124 6 (M35_.1 124 54)) rfl ⟨trivial, trivial, rfl, rfl, trivial⟩ (fun M40_ e41_ => ?_)
    have o42_ : pvOk M40_ := pvok_u2 e41_ o37_ rfl b39_
    have f43_ : pvFr fp_eX10_undo_124 M M40_ := pvfr_u e41_ f38_ rfl
    have b44_ : 0 ≤ Int32.toInt (M40_.1 124 55) ∧ Int32.toInt (M40_.1 124 55) ≤ 7 := pvok_r o42_ 124 55 rfl
    refine pw_blkw hT 4 (pc := 82) (lo := [some (pvR 124), none]) (st := []) (M := pvu M40_ 124 37 (M40_.1 124 55)) rfl ⟨trivial, trivial, rfl, rfl, trivial⟩ (fun M45_ e46_ => ?_)
    have o47_ : pvOk M45_ := pvok_u2 e46_ o42_ rfl b44_
    have f48_ : pvFr fp_eX10_undo_124 M M45_ := pvfr_u e46_ f43_ rfl
    have b49_ : 0 ≤ Int32.toInt (M45_.1 124 56) ∧ Int32.toInt (M45_.1 124 56) ≤ 6 := pvok_r o47_ 124 56 rfl
    refine pw_blkw hT 4 (pc := 90) (lo := [some (pvR 124), none]) (st := []) (M := pvu M45_ 124 40 (M45_.1 124 56)) rfl ⟨trivial, trivial, rfl, rfl, trivial⟩ (fun M50_ e51_ => ?_)
    have o52_ : pvOk M50_ := pvok_u2 e51_ o47_ rfl b49_
    have f53_ : pvFr fp_eX10_undo_124 M M50_ := pvfr_u e51_ f48_ rfl
    have b54_ : 0 ≤ Int32.toInt (M50_.1 124 57) ∧ Int32.toInt (M50_.1 124 57) ≤ 8 := pvok_r o52_ 124 57 rfl
    refine pw_blkw hT 4 (pc := 98) (lo := [some (pvR 124), none]) (st := []) (M := pvu M50_ 124 43 (M50_.1 124 57)) rfl ⟨trivial, trivial, rfl, rfl, trivial⟩ (fun M55_ e56_ => ?_)
    have o57_ : pvOk M55_ := pvok_u2 e56_ o52_ rfl b54_
    have f58_ : pvFr fp_eX10_undo_124 M M55_ := pvfr_u e56_ f53_ rfl
    refine pw_blk hT 2 (S' := (100, [some (pvR 124), some (pvI 0)], [], M55_)) rfl ⟨trivial, trivial, trivial⟩ ?_
    have e59_ : (M55_.1 124 46) = (M.1 124 46) := (((((((((((pvu_n e56_ 124 46 (Or.inr (by decide))).trans (pvu_n e51_ 124 46 (Or.inr (by decide)))).trans (pvu_n e46_ 124 46 (Or.inr (by decide)))).trans (pvu_n e41_ 124 46 (Or.inr (by decide)))).trans (pvu_n e36_ 124 46 (Or.inr (by decide)))).trans (pvu_n e31_ 124 46 (Or.inr (by decide)))).trans (pvu_n e26_ 124 46 (Or.inr (by decide)))).trans (pvu_n e21_ 124 46 (Or.inr (by decide)))).trans (pvu_n e16_ 124 46 (Or.inr (by decide)))).trans (pvu_n e11_ 124 46 (Or.inr (by decide)))).trans (pvu_n e6_ 124 46 (Or.inr (by decide))))
    have b60_ : 1 ≤ Int32.toInt (M55_.1 124 46) ∧ Int32.toInt (M55_.1 124 46) ≤ 1 := (by rw [e59_]; exact b3_)
    have hlz6698_ : ∀ (nz6698_ : Nat) (i1z6698_ : Int32) (Mz6698_ : pvM), (pvOk Mz6698_) → (pvFr fp_eX10_undo_124 M Mz6698_) → (Mz6698_.1 124 46 = M55_.1 124 46) → (0 ≤ Int32.toInt i1z6698_ ∧ Int32.toInt i1z6698_ ≤ 7) → (Int32.toInt (Mz6698_.1 124 15) = Int32.toInt (M.1 124 47)) → (Int32.toInt (Mz6698_.1 124 3) = Int32.toInt (M.1 124 51)) → (Mz6698_.1 124 0 = (M.1 124 48)) → (Mz6698_.1 124 3 = (M.1 124 51)) → (Mz6698_.1 124 4 = (M.1 124 52)) → (Mz6698_.1 124 40 = (M.1 124 56)) → (Mz6698_.1 124 43 = (M.1 124 57)) → (zC1 125 151 (Int32.toNatClampNeg i1z6698_) M Mz6698_) → (zC1 126 152 (Int32.toNatClampNeg i1z6698_) M Mz6698_) → (zC1 127 153 (Int32.toNatClampNeg i1z6698_) M Mz6698_) → (zC1 128 154 (Int32.toNatClampNeg i1z6698_) M Mz6698_) → (zC1 129 155 (Int32.toNatClampNeg i1z6698_) M Mz6698_) → (zC1 131 162 (Int32.toNatClampNeg i1z6698_) M Mz6698_) → (zC1 145 157 (Int32.toNatClampNeg i1z6698_) M Mz6698_) → (zhide ((8 - Int32.toInt i1z6698_).toNat < nz6698_)) → PW 94 d (100, [some (pvR 124), some (pvI i1z6698_)], [], Mz6698_) (fun r X => (∃ x : Int32, r = some (pvI x) ∧ ((-3) ≤ Int32.toInt x ∧ Int32.toInt x ≤ 7) ∧ x = (if (M.1 124 46) = 0 then (-3) else (M.1 124 48))) ∧ pvOk X ∧ pvFr fp_eX10_undo_124 M X ∧ ((pvWF M → pvWF X) ∧ (Int32.toInt (M.1 124 51) ≤ 99 → Int32.toInt (M.1 124 3) ≤ 99 → Int32.toInt (X.1 124 3) ≤ 99)) ∧ zU10 M X ∧ X.1 124 0 = (if (M.1 124 46) = 0 then (M.1 124 0) else (M.1 124 48)) ∧ X.1 124 3 = (if (M.1 124 46) = 0 then (M.1 124 3) else (M.1 124 51)) ∧ X.1 124 4 = (if (M.1 124 46) = 0 then (M.1 124 4) else (M.1 124 52)) ∧ X.1 124 40 = (if (M.1 124 46) = 0 then (M.1 124 40) else (M.1 124 56)) ∧ X.1 124 43 = (if (M.1 124 46) = 0 then (M.1 124 43) else (M.1 124 57))) := by
      intro nz6698_
      induction nz6698_ with
      | zero => intro i1z6698_ Mz6698_ oz6698_ fz6698_ k124_46z6698_ h1z6698_ j0z6698_ j1z6698_ j2z6698_ j3z6698_ j4z6698_ j5z6698_ j6z6698_ j7z6698_ j8z6698_ j9z6698_ j10z6698_ j11z6698_ j12z6698_ j13z6698_ hmz6698_; exact absurd (zshow hmz6698_) (Nat.not_lt_zero _)
      | succ nz6698_ ihz6698_ =>
        intro i1z6698_ Mz6698_ oz6698_ fz6698_ k124_46z6698_ h1z6698_ j0z6698_ j1z6698_ j2z6698_ j3z6698_ j4z6698_ j5z6698_ j6z6698_ j7z6698_ j8z6698_ j9z6698_ j10z6698_ j11z6698_ j12z6698_ j13z6698_ hmz6698_
        have b6699_ : (-1) ≤ Int32.toInt (Mz6698_.1 124 15) ∧ Int32.toInt (Mz6698_.1 124 15) ≤ 5 := pvok_r oz6698_ 124 15 rfl
        have b6700_ : 0 ≤ Int32.toInt (Mz6698_.1 124 3) ∧ Int32.toInt (Mz6698_.1 124 3) ≤ 108 := pvok_r oz6698_ 124 3 rfl
        refine pw_blk hT 2 (S' := (103, [some (pvR 124), some (pvI i1z6698_)], [pvI 7, pvI i1z6698_], Mz6698_)) rfl ⟨trivial, trivial, trivial⟩ ?_
        refine pw_ic hT (c := 7 ≤ i1z6698_) rfl rfl (fun c6701_ => ?_) (fun c6701_ => ?_)
        · have b6702_ : 7 ≤ Int32.toInt i1z6698_ ∧ Int32.toInt i1z6698_ ≤ 7 := zr_le_r 7 c6701_ h1z6698_ (show 7 ≤ Int32.toInt 7 ∧ Int32.toInt 7 ≤ 7 from (by decide)) (by decide)
          refine pw_blk hT 2 (S' := (198, [some (pvR 124), some (pvI 0)], [], Mz6698_)) rfl ⟨trivial, trivial, trivial⟩ ?_
          have e6703_ : (Mz6698_.1 124 46) = (M55_.1 124 46) := (k124_46z6698_)
          have b6704_ : 1 ≤ Int32.toInt (Mz6698_.1 124 46) ∧ Int32.toInt (Mz6698_.1 124 46) ≤ 1 := (by rw [e6703_]; exact b60_)
          have hlz8311_ : ∀ (nz8311_ : Nat) (i1z8311_ : Int32) (Mz8311_ : pvM), (pvOk Mz8311_) → (pvFr fp_eX10_undo_124 M Mz8311_) → (Mz8311_.1 124 46 = Mz6698_.1 124 46) → (0 ≤ Int32.toInt i1z8311_ ∧ Int32.toInt i1z8311_ ≤ 28) → (Int32.toInt (Mz8311_.1 124 15) = Int32.toInt (M.1 124 47)) → (Int32.toInt (Mz8311_.1 124 3) = Int32.toInt (M.1 124 51)) → (Mz8311_.1 124 0 = (M.1 124 48)) → (Mz8311_.1 124 3 = (M.1 124 51)) → (Mz8311_.1 124 4 = (M.1 124 52)) → (Mz8311_.1 124 40 = (M.1 124 56)) → (Mz8311_.1 124 43 = (M.1 124 57)) → (zC1 125 151 7 M Mz8311_) → (zC1 126 152 7 M Mz8311_) → (zC1 127 153 7 M Mz8311_) → (zC1 128 154 7 M Mz8311_) → (zC1 129 155 7 M Mz8311_) → (zC1 131 162 7 M Mz8311_) → (zC1 145 157 7 M Mz8311_) → (zC1 130 156 (Int32.toNatClampNeg i1z8311_) M Mz8311_) → (zhide ((29 - Int32.toInt i1z8311_).toNat < nz8311_)) → PW 94 d (198, [some (pvR 124), some (pvI i1z8311_)], [], Mz8311_) (fun r X => (∃ x : Int32, r = some (pvI x) ∧ ((-3) ≤ Int32.toInt x ∧ Int32.toInt x ≤ 7) ∧ x = (if (M.1 124 46) = 0 then (-3) else (M.1 124 48))) ∧ pvOk X ∧ pvFr fp_eX10_undo_124 M X ∧ ((pvWF M → pvWF X) ∧ (Int32.toInt (M.1 124 51) ≤ 99 → Int32.toInt (M.1 124 3) ≤ 99 → Int32.toInt (X.1 124 3) ≤ 99)) ∧ zU10 M X ∧ X.1 124 0 = (if (M.1 124 46) = 0 then (M.1 124 0) else (M.1 124 48)) ∧ X.1 124 3 = (if (M.1 124 46) = 0 then (M.1 124 3) else (M.1 124 51)) ∧ X.1 124 4 = (if (M.1 124 46) = 0 then (M.1 124 4) else (M.1 124 52)) ∧ X.1 124 40 = (if (M.1 124 46) = 0 then (M.1 124 40) else (M.1 124 56)) ∧ X.1 124 43 = (if (M.1 124 46) = 0 then (M.1 124 43) else (M.1 124 57))) := by
            intro nz8311_
            induction nz8311_ with
            | zero => intro i1z8311_ Mz8311_ oz8311_ fz8311_ k124_46z8311_ h1z8311_ j0z8311_ j1z8311_ j2z8311_ j3z8311_ j4z8311_ j5z8311_ j6z8311_ j7z8311_ j8z8311_ j9z8311_ j10z8311_ j11z8311_ j12z8311_ j13z8311_ j14z8311_ hmz8311_; exact absurd (zshow hmz8311_) (Nat.not_lt_zero _)
            | succ nz8311_ ihz8311_ =>
              intro i1z8311_ Mz8311_ oz8311_ fz8311_ k124_46z8311_ h1z8311_ j0z8311_ j1z8311_ j2z8311_ j3z8311_ j4z8311_ j5z8311_ j6z8311_ j7z8311_ j8z8311_ j9z8311_ j10z8311_ j11z8311_ j12z8311_ j13z8311_ j14z8311_ hmz8311_
              have b8312_ : (-1) ≤ Int32.toInt (Mz8311_.1 124 15) ∧ Int32.toInt (Mz8311_.1 124 15) ≤ 5 := pvok_r oz8311_ 124 15 rfl
              have b8313_ : 0 ≤ Int32.toInt (Mz8311_.1 124 3) ∧ Int32.toInt (Mz8311_.1 124 3) ≤ 108 := pvok_r oz8311_ 124 3 rfl
              refine pw_blk hT 2 (S' := (201, [some (pvR 124), some (pvI i1z8311_)], [pvI 28, pvI i1z8311_], Mz8311_)) rfl ⟨trivial, trivial, trivial⟩ ?_
              refine pw_ic hT (c := 28 ≤ i1z8311_) rfl rfl (fun c8314_ => ?_) (fun c8314_ => ?_)
              · have b8315_ : 28 ≤ Int32.toInt i1z8311_ ∧ Int32.toInt i1z8311_ ≤ 28 := zr_le_r 28 c8314_ h1z8311_ (show 28 ≤ Int32.toInt 28 ∧ Int32.toInt 28 ≤ 28 from (by decide)) (by decide)
                refine pw_blk hT 2 (S' := (224, [some (pvR 124), some (pvI 0)], [], Mz8311_)) rfl ⟨trivial, trivial, trivial⟩ ?_
                have e8316_ : (Mz8311_.1 124 46) = (Mz6698_.1 124 46) := (k124_46z8311_)
                have b8317_ : 1 ≤ Int32.toInt (Mz8311_.1 124 46) ∧ Int32.toInt (Mz8311_.1 124 46) ≤ 1 := (by rw [e8316_]; exact b6704_)
                have hlz8696_ : ∀ (nz8696_ : Nat) (i1z8696_ : Int32) (Mz8696_ : pvM), (pvOk Mz8696_) → (pvFr fp_eX10_undo_124 M Mz8696_) → (Mz8696_.1 124 46 = Mz8311_.1 124 46) → (0 ≤ Int32.toInt i1z8696_ ∧ Int32.toInt i1z8696_ ≤ 6) → (Int32.toInt (Mz8696_.1 124 15) = Int32.toInt (M.1 124 47)) → (Int32.toInt (Mz8696_.1 124 3) = Int32.toInt (M.1 124 51)) → (Mz8696_.1 124 0 = (M.1 124 48)) → (Mz8696_.1 124 3 = (M.1 124 51)) → (Mz8696_.1 124 4 = (M.1 124 52)) → (Mz8696_.1 124 40 = (M.1 124 56)) → (Mz8696_.1 124 43 = (M.1 124 57)) → (zC1 125 151 7 M Mz8696_) → (zC1 126 152 7 M Mz8696_) → (zC1 127 153 7 M Mz8696_) → (zC1 128 154 7 M Mz8696_) → (zC1 129 155 7 M Mz8696_) → (zC1 131 162 7 M Mz8696_) → (zC1 145 157 7 M Mz8696_) → (zC1 130 156 28 M Mz8696_) → (zC1 147 158 (Int32.toNatClampNeg i1z8696_) M Mz8696_) → (zC1 148 159 (Int32.toNatClampNeg i1z8696_) M Mz8696_) → (zhide ((7 - Int32.toInt i1z8696_).toNat < nz8696_)) → PW 94 d (224, [some (pvR 124), some (pvI i1z8696_)], [], Mz8696_) (fun r X => (∃ x : Int32, r = some (pvI x) ∧ ((-3) ≤ Int32.toInt x ∧ Int32.toInt x ≤ 7) ∧ x = (if (M.1 124 46) = 0 then (-3) else (M.1 124 48))) ∧ pvOk X ∧ pvFr fp_eX10_undo_124 M X ∧ ((pvWF M → pvWF X) ∧ (Int32.toInt (M.1 124 51) ≤ 99 → Int32.toInt (M.1 124 3) ≤ 99 → Int32.toInt (X.1 124 3) ≤ 99)) ∧ zU10 M X ∧ X.1 124 0 = (if (M.1 124 46) = 0 then (M.1 124 0) else (M.1 124 48)) ∧ X.1 124 3 = (if (M.1 124 46) = 0 then (M.1 124 3) else (M.1 124 51)) ∧ X.1 124 4 = (if (M.1 124 46) = 0 then (M.1 124 4) else (M.1 124 52)) ∧ X.1 124 40 = (if (M.1 124 46) = 0 then (M.1 124 40) else (M.1 124 56)) ∧ X.1 124 43 = (if (M.1 124 46) = 0 then (M.1 124 43) else (M.1 124 57))) := by
                  intro nz8696_
                  induction nz8696_ with
                  | zero => intro i1z8696_ Mz8696_ oz8696_ fz8696_ k124_46z8696_ h1z8696_ j0z8696_ j1z8696_ j2z8696_ j3z8696_ j4z8696_ j5z8696_ j6z8696_ j7z8696_ j8z8696_ j9z8696_ j10z8696_ j11z8696_ j12z8696_ j13z8696_ j14z8696_ j15z8696_ j16z8696_ hmz8696_; exact absurd (zshow hmz8696_) (Nat.not_lt_zero _)
                  | succ nz8696_ ihz8696_ =>
                    intro i1z8696_ Mz8696_ oz8696_ fz8696_ k124_46z8696_ h1z8696_ j0z8696_ j1z8696_ j2z8696_ j3z8696_ j4z8696_ j5z8696_ j6z8696_ j7z8696_ j8z8696_ j9z8696_ j10z8696_ j11z8696_ j12z8696_ j13z8696_ j14z8696_ j15z8696_ j16z8696_ hmz8696_
                    have b8697_ : (-1) ≤ Int32.toInt (Mz8696_.1 124 15) ∧ Int32.toInt (Mz8696_.1 124 15) ≤ 5 := pvok_r oz8696_ 124 15 rfl
                    have b8698_ : 0 ≤ Int32.toInt (Mz8696_.1 124 3) ∧ Int32.toInt (Mz8696_.1 124 3) ≤ 108 := pvok_r oz8696_ 124 3 rfl
                    refine pw_blk hT 2 (S' := (227, [some (pvR 124), some (pvI i1z8696_)], [pvI 6, pvI i1z8696_], Mz8696_)) rfl ⟨trivial, trivial, trivial⟩ ?_
                    refine pw_ic hT (c := 6 ≤ i1z8696_) rfl rfl (fun c8699_ => ?_) (fun c8699_ => ?_)
                    · have b8700_ : 6 ≤ Int32.toInt i1z8696_ ∧ Int32.toInt i1z8696_ ≤ 6 := zr_le_r 6 c8699_ h1z8696_ (show 6 ≤ Int32.toInt 6 ∧ Int32.toInt 6 ≤ 6 from (by decide)) (by decide)
                      refine pw_blk hT 2 (S' := (262, [some (pvR 124), some (pvI 0)], [], Mz8696_)) rfl ⟨trivial, trivial, trivial⟩ ?_
                      have e8701_ : (Mz8696_.1 124 46) = (Mz8311_.1 124 46) := (k124_46z8696_)
                      have b8702_ : 1 ≤ Int32.toInt (Mz8696_.1 124 46) ∧ Int32.toInt (Mz8696_.1 124 46) ≤ 1 := (by rw [e8701_]; exact b8317_)
                      have hlz8768_ : ∀ (nz8768_ : Nat) (i1z8768_ : Int32) (Mz8768_ : pvM), (pvOk Mz8768_) → (pvFr fp_eX10_undo_124 M Mz8768_) → (Mz8768_.1 124 46 = Mz8696_.1 124 46) → (0 ≤ Int32.toInt i1z8768_ ∧ Int32.toInt i1z8768_ ≤ 8) → (Int32.toInt (Mz8768_.1 124 15) = Int32.toInt (M.1 124 47)) → (Int32.toInt (Mz8768_.1 124 3) = Int32.toInt (M.1 124 51)) → (Mz8768_.1 124 0 = (M.1 124 48)) → (Mz8768_.1 124 3 = (M.1 124 51)) → (Mz8768_.1 124 4 = (M.1 124 52)) → (Mz8768_.1 124 40 = (M.1 124 56)) → (Mz8768_.1 124 43 = (M.1 124 57)) → (zC1 125 151 7 M Mz8768_) → (zC1 126 152 7 M Mz8768_) → (zC1 127 153 7 M Mz8768_) → (zC1 128 154 7 M Mz8768_) → (zC1 129 155 7 M Mz8768_) → (zC1 131 162 7 M Mz8768_) → (zC1 145 157 7 M Mz8768_) → (zC1 130 156 28 M Mz8768_) → (zC1 147 158 6 M Mz8768_) → (zC1 148 159 6 M Mz8768_) → (zC1 149 160 (Int32.toNatClampNeg i1z8768_) M Mz8768_) → (zC1 150 161 (Int32.toNatClampNeg i1z8768_) M Mz8768_) → (zhide ((9 - Int32.toInt i1z8768_).toNat < nz8768_)) → PW 94 d (262, [some (pvR 124), some (pvI i1z8768_)], [], Mz8768_) (fun r X => (∃ x : Int32, r = some (pvI x) ∧ ((-3) ≤ Int32.toInt x ∧ Int32.toInt x ≤ 7) ∧ x = (if (M.1 124 46) = 0 then (-3) else (M.1 124 48))) ∧ pvOk X ∧ pvFr fp_eX10_undo_124 M X ∧ ((pvWF M → pvWF X) ∧ (Int32.toInt (M.1 124 51) ≤ 99 → Int32.toInt (M.1 124 3) ≤ 99 → Int32.toInt (X.1 124 3) ≤ 99)) ∧ zU10 M X ∧ X.1 124 0 = (if (M.1 124 46) = 0 then (M.1 124 0) else (M.1 124 48)) ∧ X.1 124 3 = (if (M.1 124 46) = 0 then (M.1 124 3) else (M.1 124 51)) ∧ X.1 124 4 = (if (M.1 124 46) = 0 then (M.1 124 4) else (M.1 124 52)) ∧ X.1 124 40 = (if (M.1 124 46) = 0 then (M.1 124 40) else (M.1 124 56)) ∧ X.1 124 43 = (if (M.1 124 46) = 0 then (M.1 124 43) else (M.1 124 57))) := by
                        intro nz8768_
                        induction nz8768_ with
                        | zero => intro i1z8768_ Mz8768_ oz8768_ fz8768_ k124_46z8768_ h1z8768_ j0z8768_ j1z8768_ j2z8768_ j3z8768_ j4z8768_ j5z8768_ j6z8768_ j7z8768_ j8z8768_ j9z8768_ j10z8768_ j11z8768_ j12z8768_ j13z8768_ j14z8768_ j15z8768_ j16z8768_ j17z8768_ j18z8768_ hmz8768_; exact absurd (zshow hmz8768_) (Nat.not_lt_zero _)
                        | succ nz8768_ ihz8768_ =>
                          intro i1z8768_ Mz8768_ oz8768_ fz8768_ k124_46z8768_ h1z8768_ j0z8768_ j1z8768_ j2z8768_ j3z8768_ j4z8768_ j5z8768_ j6z8768_ j7z8768_ j8z8768_ j9z8768_ j10z8768_ j11z8768_ j12z8768_ j13z8768_ j14z8768_ j15z8768_ j16z8768_ j17z8768_ j18z8768_ hmz8768_
                          have b8769_ : (-1) ≤ Int32.toInt (Mz8768_.1 124 15) ∧ Int32.toInt (Mz8768_.1 124 15) ≤ 5 := pvok_r oz8768_ 124 15 rfl
                          have b8770_ : 0 ≤ Int32.toInt (Mz8768_.1 124 3) ∧ Int32.toInt (Mz8768_.1 124 3) ≤ 108 := pvok_r oz8768_ 124 3 rfl
                          refine pw_blk hT 2 (S' := (265, [some (pvR 124), some (pvI i1z8768_)], [pvI 8, pvI i1z8768_], Mz8768_)) rfl ⟨trivial, trivial, trivial⟩ ?_
                          refine pw_ic hT (c := 8 ≤ i1z8768_) rfl rfl (fun c8771_ => ?_) (fun c8771_ => ?_)
                          · have b8772_ : 8 ≤ Int32.toInt i1z8768_ ∧ Int32.toInt i1z8768_ ≤ 8 := zr_le_r 8 c8771_ h1z8768_ (show 8 ≤ Int32.toInt 8 ∧ Int32.toInt 8 ≤ 8 from (by decide)) (by decide)
                            have b8773_ : 0 ≤ Int32.toInt (Mz8768_.1 124 0) ∧ Int32.toInt (Mz8768_.1 124 0) ≤ 7 := pvok_r oz8768_ 124 0 rfl
                            refine pw_blk hT 2 (S' := (302, [some (pvR 124), some (pvI i1z8768_)], [pvI (Mz8768_.1 124 0)], Mz8768_)) rfl ⟨trivial, rfl, trivial⟩ ?_
                            exact pw_ret hT rfl (r := some (pvI (Mz8768_.1 124 0))) (M' := Mz8768_) ⟨rfl, rfl⟩ ⟨⟨_, rfl, (zr_wide b8773_ (by decide) (by decide)), (by rw [if_neg c2_]; first | done | exact (show (Mz8768_.1 124 0) = (M.1 124 48) from by rw [j2z8768_]) | (rw [if_neg c2_]; exact (show (Mz8768_.1 124 0) = (M.1 124 48) from by rw [j2z8768_])))⟩, oz8768_, fz8768_, ⟨fun hz => ⟨by have z3 := hz.1; have z4 := hz.2.1; have w0 : Int32.toInt (Mz8768_.1 124 14) = Int32.toInt (M.1 124 14) := congrArg Int32.toInt (fz8768_ 124 14 rfl); omega, by have z3 := hz.1; have z4 := hz.2.1; have w0 : Int32.toInt (Mz8768_.1 124 14) = Int32.toInt (M.1 124 14) := congrArg Int32.toInt (fz8768_ 124 14 rfl); have v0 : Int32.toInt (Mz8768_.1 124 47) = Int32.toInt (M.1 124 47) := congrArg Int32.toInt (fz8768_ 124 47 rfl); omega, fun a ha => pvWh_r (pvfr_row (L := fpL_eX10_undo_124) fz8768_ rfl) (pvfr_row (L := fpL_eX10_undo_124) fz8768_ rfl) (pvfr_row (L := fpL_eX10_undo_124) fz8768_ rfl) (pvfr_row (L := fpL_eX10_undo_124) fz8768_ rfl) (pvfr_row (L := fpL_eX10_undo_124) fz8768_ rfl) (hz.2.2 a (by have w0 : Int32.toInt (Mz8768_.1 124 14) = Int32.toInt (M.1 124 14) := congrArg Int32.toInt (fz8768_ 124 14 rfl); omega))⟩, fun hc hc2 => by omega⟩, (Or.inr ⟨c2_, (zD_c j7z8768_ j8z8768_ j9z8768_ j10z8768_ j11z8768_ j14z8768_)⟩), (by rw [if_neg c2_]; first | done | exact j2z8768_ | (rw [if_neg c2_]; done) | (rw [if_neg c2_]; exact j2z8768_)), (by rw [if_neg c2_]; first | done | exact j3z8768_ | (rw [if_neg c2_]; done) | (rw [if_neg c2_]; exact j3z8768_)), (by rw [if_neg c2_]; first | done | exact j4z8768_ | (rw [if_neg c2_]; done) | (rw [if_neg c2_]; exact j4z8768_)), (by rw [if_neg c2_]; first | done | exact j5z8768_ | (rw [if_neg c2_]; done) | (rw [if_neg c2_]; exact j5z8768_)), (by rw [if_neg c2_]; first | done | exact j6z8768_ | (rw [if_neg c2_]; done) | (rw [if_neg c2_]; exact j6z8768_))⟩
                          · have b8774_ : 0 ≤ Int32.toInt i1z8768_ ∧ Int32.toInt i1z8768_ ≤ 7 := zr_nle_r 7 c8771_ h1z8768_ (show 8 ≤ Int32.toInt 8 ∧ Int32.toInt 8 ≤ 8 from (by decide)) (by decide)
                            have b8775_ : 0 ≤ Int32.toInt (Mz8768_.1 160 (Int32.toNatClampNeg i1z8768_)) ∧ Int32.toInt (Mz8768_.1 160 (Int32.toNatClampNeg i1z8768_)) ≤ 6 := pvok_r oz8768_ 160 (Int32.toNatClampNeg i1z8768_) rfl
                            refine pw_blkw hT 8 (pc := 280) (lo := [some (pvR 124), some (pvI i1z8768_)]) (st := []) (M := pvu Mz8768_ 149 (Int32.toNatClampNeg i1z8768_) (Mz8768_.1 160 (Int32.toNatClampNeg i1z8768_))) rfl ⟨trivial, rfl, trivial, trivial, rfl, trivial, ⟨rfl, (zr_in (n := 8) b8774_ (by decide) (by decide))⟩, ⟨rfl, (zr_in (n := 8) b8774_ (by decide) (by decide))⟩, trivial⟩ (fun M8776_ e8777_ => ?_)
                            have o8778_ : pvOk M8776_ := pvok_u2 e8777_ oz8768_ rfl b8775_
                            have f8779_ : pvFr fp_eX10_undo_124 M M8776_ := pvfr_u e8777_ fz8768_ rfl
                            have b8780_ : 0 ≤ Int32.toInt (M8776_.1 161 (Int32.toNatClampNeg i1z8768_)) ∧ Int32.toInt (M8776_.1 161 (Int32.toNatClampNeg i1z8768_)) ≤ 9999 := pvok_r o8778_ 161 (Int32.toNatClampNeg i1z8768_) rfl
                            refine pw_blkw hT 8 (pc := 292) (lo := [some (pvR 124), some (pvI i1z8768_)]) (st := []) (M := pvu M8776_ 150 (Int32.toNatClampNeg i1z8768_) (M8776_.1 161 (Int32.toNatClampNeg i1z8768_))) rfl ⟨trivial, rfl, trivial, trivial, rfl, trivial, ⟨rfl, (zr_in (n := 8) b8774_ (by decide) (by decide))⟩, ⟨rfl, (zr_in (n := 8) b8774_ (by decide) (by decide))⟩, trivial⟩ (fun M8781_ e8782_ => ?_)
                            have o8783_ : pvOk M8781_ := pvok_u2 e8782_ o8778_ rfl b8780_
                            have f8784_ : pvFr fp_eX10_undo_124 M M8781_ := pvfr_u e8782_ f8779_ rfl
                            obtain ⟨q8786_, b8785_⟩ : (Int32.toInt (i1z8768_ + 1) = Int32.toInt i1z8768_ + 1) ∧ (1 ≤ Int32.toInt (i1z8768_ + 1) ∧ Int32.toInt (i1z8768_ + 1) ≤ 8) := zadd_k i1z8768_ 1 1 1 8 b8774_ (by decide) (by decide) (by decide) (by decide) (by decide)
                            refine pw_blk hT 2 (S' := (262, [some (pvR 124), some (pvI (i1z8768_ + 1))], [], M8781_)) rfl ⟨trivial, trivial, trivial⟩ ?_
                            have j8787_ : Int32.toInt (M8781_.1 124 15) = Int32.toInt (M.1 124 47) := (by have y01 : Int32.toInt (M8781_.1 124 15) = Int32.toInt (Mz8768_.1 124 15) := congrArg Int32.toInt ((pvu_n e8782_ 124 15 (Or.inl (by decide))).trans (pvu_n e8777_ 124 15 (Or.inl (by decide)))); omega)
                            have j8788_ : Int32.toInt (M8781_.1 124 3) = Int32.toInt (M.1 124 51) := (by have y01 : Int32.toInt (M8781_.1 124 3) = Int32.toInt (Mz8768_.1 124 3) := congrArg Int32.toInt ((pvu_n e8782_ 124 3 (Or.inl (by decide))).trans (pvu_n e8777_ 124 3 (Or.inl (by decide)))); omega)
                            have j8789_ : M8781_.1 124 0 = (M.1 124 48) := (((pvu_n e8782_ 124 0 (Or.inl (by decide))).trans (pvu_n e8777_ 124 0 (Or.inl (by decide)))).trans (j2z8768_))
                            have j8790_ : M8781_.1 124 3 = (M.1 124 51) := (((pvu_n e8782_ 124 3 (Or.inl (by decide))).trans (pvu_n e8777_ 124 3 (Or.inl (by decide)))).trans (j3z8768_))
                            have j8791_ : M8781_.1 124 4 = (M.1 124 52) := (((pvu_n e8782_ 124 4 (Or.inl (by decide))).trans (pvu_n e8777_ 124 4 (Or.inl (by decide)))).trans (j4z8768_))
                            have j8792_ : M8781_.1 124 40 = (M.1 124 56) := (((pvu_n e8782_ 124 40 (Or.inl (by decide))).trans (pvu_n e8777_ 124 40 (Or.inl (by decide)))).trans (j5z8768_))
                            have j8793_ : M8781_.1 124 43 = (M.1 124 57) := (((pvu_n e8782_ 124 43 (Or.inl (by decide))).trans (pvu_n e8777_ 124 43 (Or.inl (by decide)))).trans (j6z8768_))
                            have j8794_ : zC1 125 151 7 M M8781_ := (zC1_u (zC1_u j7z8768_ e8777_ (by decide)) e8782_ (by decide))
                            have j8795_ : zC1 126 152 7 M M8781_ := (zC1_u (zC1_u j8z8768_ e8777_ (by decide)) e8782_ (by decide))
                            have j8796_ : zC1 127 153 7 M M8781_ := (zC1_u (zC1_u j9z8768_ e8777_ (by decide)) e8782_ (by decide))
                            have j8797_ : zC1 128 154 7 M M8781_ := (zC1_u (zC1_u j10z8768_ e8777_ (by decide)) e8782_ (by decide))
                            have j8798_ : zC1 129 155 7 M M8781_ := (zC1_u (zC1_u j11z8768_ e8777_ (by decide)) e8782_ (by decide))
                            have j8799_ : zC1 131 162 7 M M8781_ := (zC1_u (zC1_u j12z8768_ e8777_ (by decide)) e8782_ (by decide))
                            have j8800_ : zC1 145 157 7 M M8781_ := (zC1_u (zC1_u j13z8768_ e8777_ (by decide)) e8782_ (by decide))
                            have j8801_ : zC1 130 156 28 M M8781_ := (zC1_u (zC1_u j14z8768_ e8777_ (by decide)) e8782_ (by decide))
                            have j8802_ : zC1 147 158 6 M M8781_ := (zC1_u (zC1_u j15z8768_ e8777_ (by decide)) e8782_ (by decide))
                            have j8803_ : zC1 148 159 6 M M8781_ := (zC1_u (zC1_u j16z8768_ e8777_ (by decide)) e8782_ (by decide))
                            have j8804_ : zC1 149 160 (Int32.toNatClampNeg (i1z8768_ + 1)) M M8781_ := (zC1_n (znp1 b8774_ (by decide) (by decide)) (zC1_u (zC1_w j17z8768_ e8777_ (fz8768_ 160 (Int32.toNatClampNeg i1z8768_) rfl)) e8782_ (by decide)))
                            have j8805_ : zC1 150 161 (Int32.toNatClampNeg (i1z8768_ + 1)) M M8781_ := (zC1_n (znp1 b8774_ (by decide) (by decide)) (zC1_w (zC1_u j18z8768_ e8777_ (by decide)) e8782_ ((pvu_n e8777_ 161 (Int32.toNatClampNeg i1z8768_) (Or.inl (by decide))).trans (fz8768_ 161 (Int32.toNatClampNeg i1z8768_) rfl))))
                            exact ihz8768_ (i1z8768_ + 1) M8781_ o8783_ f8784_ (((pvu_n e8782_ 124 46 (Or.inl (by decide))).trans (pvu_n e8777_ 124 46 (Or.inl (by decide)))).trans (k124_46z8768_)) (zr_wide b8785_ (by decide) (by decide)) j8787_ j8788_ j8789_ j8790_ j8791_ j8792_ j8793_ j8794_ j8795_ j8796_ j8797_ j8798_ j8799_ j8800_ j8801_ j8802_ j8803_ j8804_ j8805_ (zhid (by have hm0 := zshow hmz8768_; have y01 : Int32.toInt (M8781_.1 124 15) = Int32.toInt (Mz8768_.1 124 15) := congrArg Int32.toInt ((pvu_n e8782_ 124 15 (Or.inl (by decide))).trans (pvu_n e8777_ 124 15 (Or.inl (by decide)))); have y11 : Int32.toInt (M8781_.1 124 3) = Int32.toInt (Mz8768_.1 124 3) := congrArg Int32.toInt ((pvu_n e8782_ 124 3 (Or.inl (by decide))).trans (pvu_n e8777_ 124 3 (Or.inl (by decide)))); omega))
                      have u8806_ : Int32.toInt 0 = 0 := by decide
                      have j8807_ : Int32.toInt (Mz8696_.1 124 15) = Int32.toInt (M.1 124 47) := (by omega)
                      have j8808_ : Int32.toInt (Mz8696_.1 124 3) = Int32.toInt (M.1 124 51) := (by omega)
                      have j8809_ : Mz8696_.1 124 0 = (M.1 124 48) := j2z8696_
                      have j8810_ : Mz8696_.1 124 3 = (M.1 124 51) := j3z8696_
                      have j8811_ : Mz8696_.1 124 4 = (M.1 124 52) := j4z8696_
                      have j8812_ : Mz8696_.1 124 40 = (M.1 124 56) := j5z8696_
                      have j8813_ : Mz8696_.1 124 43 = (M.1 124 57) := j6z8696_
                      have j8814_ : zC1 125 151 7 M Mz8696_ := j7z8696_
                      have j8815_ : zC1 126 152 7 M Mz8696_ := j8z8696_
                      have j8816_ : zC1 127 153 7 M Mz8696_ := j9z8696_
                      have j8817_ : zC1 128 154 7 M Mz8696_ := j10z8696_
                      have j8818_ : zC1 129 155 7 M Mz8696_ := j11z8696_
                      have j8819_ : zC1 131 162 7 M Mz8696_ := j12z8696_
                      have j8820_ : zC1 145 157 7 M Mz8696_ := j13z8696_
                      have j8821_ : zC1 130 156 28 M Mz8696_ := j14z8696_
                      have j8822_ : zC1 147 158 6 M Mz8696_ := (zC1_n (znp0 b8700_) j15z8696_)
                      have j8823_ : zC1 148 159 6 M Mz8696_ := (zC1_n (znp0 b8700_) j16z8696_)
                      have j8824_ : zC1 149 160 (Int32.toNatClampNeg 0) M Mz8696_ := (zC1_0 149 160 M Mz8696_)
                      have j8825_ : zC1 150 161 (Int32.toNatClampNeg 0) M Mz8696_ := (zC1_0 150 161 M Mz8696_)
                      exact hlz8768_ _ 0 Mz8696_ oz8696_ fz8696_ rfl (zr_wide (show 0 ≤ Int32.toInt 0 ∧ Int32.toInt 0 ≤ 0 from (by decide)) (by decide) (by decide)) j8807_ j8808_ j8809_ j8810_ j8811_ j8812_ j8813_ j8814_ j8815_ j8816_ j8817_ j8818_ j8819_ j8820_ j8821_ j8822_ j8823_ j8824_ j8825_ (zhid (Nat.lt_succ_self _))
                    · have b8826_ : 0 ≤ Int32.toInt i1z8696_ ∧ Int32.toInt i1z8696_ ≤ 5 := zr_nle_r 5 c8699_ h1z8696_ (show 6 ≤ Int32.toInt 6 ∧ Int32.toInt 6 ≤ 6 from (by decide)) (by decide)
                      have b8827_ : 0 ≤ Int32.toInt (Mz8696_.1 158 (Int32.toNatClampNeg i1z8696_)) ∧ Int32.toInt (Mz8696_.1 158 (Int32.toNatClampNeg i1z8696_)) ≤ 6 := pvok_r oz8696_ 158 (Int32.toNatClampNeg i1z8696_) rfl
                      refine pw_blkw hT 8 (pc := 242) (lo := [some (pvR 124), some (pvI i1z8696_)]) (st := []) (M := pvu Mz8696_ 147 (Int32.toNatClampNeg i1z8696_) (Mz8696_.1 158 (Int32.toNatClampNeg i1z8696_))) rfl ⟨trivial, rfl, trivial, trivial, rfl, trivial, ⟨rfl, (zr_in (n := 6) b8826_ (by decide) (by decide))⟩, ⟨rfl, (zr_in (n := 6) b8826_ (by decide) (by decide))⟩, trivial⟩ (fun M8828_ e8829_ => ?_)
                      have o8830_ : pvOk M8828_ := pvok_u2 e8829_ oz8696_ rfl b8827_
                      have f8831_ : pvFr fp_eX10_undo_124 M M8828_ := pvfr_u e8829_ fz8696_ rfl
                      have b8832_ : 0 ≤ Int32.toInt (M8828_.1 159 (Int32.toNatClampNeg i1z8696_)) ∧ Int32.toInt (M8828_.1 159 (Int32.toNatClampNeg i1z8696_)) ≤ 9999 := pvok_r o8830_ 159 (Int32.toNatClampNeg i1z8696_) rfl
                      refine pw_blkw hT 8 (pc := 254) (lo := [some (pvR 124), some (pvI i1z8696_)]) (st := []) (M := pvu M8828_ 148 (Int32.toNatClampNeg i1z8696_) (M8828_.1 159 (Int32.toNatClampNeg i1z8696_))) rfl ⟨trivial, rfl, trivial, trivial, rfl, trivial, ⟨rfl, (zr_in (n := 6) b8826_ (by decide) (by decide))⟩, ⟨rfl, (zr_in (n := 6) b8826_ (by decide) (by decide))⟩, trivial⟩ (fun M8833_ e8834_ => ?_)
                      have o8835_ : pvOk M8833_ := pvok_u2 e8834_ o8830_ rfl b8832_
                      have f8836_ : pvFr fp_eX10_undo_124 M M8833_ := pvfr_u e8834_ f8831_ rfl
                      obtain ⟨q8838_, b8837_⟩ : (Int32.toInt (i1z8696_ + 1) = Int32.toInt i1z8696_ + 1) ∧ (1 ≤ Int32.toInt (i1z8696_ + 1) ∧ Int32.toInt (i1z8696_ + 1) ≤ 6) := zadd_k i1z8696_ 1 1 1 6 b8826_ (by decide) (by decide) (by decide) (by decide) (by decide)
                      refine pw_blk hT 2 (S' := (224, [some (pvR 124), some (pvI (i1z8696_ + 1))], [], M8833_)) rfl ⟨trivial, trivial, trivial⟩ ?_
                      have j8839_ : Int32.toInt (M8833_.1 124 15) = Int32.toInt (M.1 124 47) := (by have y01 : Int32.toInt (M8833_.1 124 15) = Int32.toInt (Mz8696_.1 124 15) := congrArg Int32.toInt ((pvu_n e8834_ 124 15 (Or.inl (by decide))).trans (pvu_n e8829_ 124 15 (Or.inl (by decide)))); omega)
                      have j8840_ : Int32.toInt (M8833_.1 124 3) = Int32.toInt (M.1 124 51) := (by have y01 : Int32.toInt (M8833_.1 124 3) = Int32.toInt (Mz8696_.1 124 3) := congrArg Int32.toInt ((pvu_n e8834_ 124 3 (Or.inl (by decide))).trans (pvu_n e8829_ 124 3 (Or.inl (by decide)))); omega)
                      have j8841_ : M8833_.1 124 0 = (M.1 124 48) := (((pvu_n e8834_ 124 0 (Or.inl (by decide))).trans (pvu_n e8829_ 124 0 (Or.inl (by decide)))).trans (j2z8696_))
                      have j8842_ : M8833_.1 124 3 = (M.1 124 51) := (((pvu_n e8834_ 124 3 (Or.inl (by decide))).trans (pvu_n e8829_ 124 3 (Or.inl (by decide)))).trans (j3z8696_))
                      have j8843_ : M8833_.1 124 4 = (M.1 124 52) := (((pvu_n e8834_ 124 4 (Or.inl (by decide))).trans (pvu_n e8829_ 124 4 (Or.inl (by decide)))).trans (j4z8696_))
                      have j8844_ : M8833_.1 124 40 = (M.1 124 56) := (((pvu_n e8834_ 124 40 (Or.inl (by decide))).trans (pvu_n e8829_ 124 40 (Or.inl (by decide)))).trans (j5z8696_))
                      have j8845_ : M8833_.1 124 43 = (M.1 124 57) := (((pvu_n e8834_ 124 43 (Or.inl (by decide))).trans (pvu_n e8829_ 124 43 (Or.inl (by decide)))).trans (j6z8696_))
                      have j8846_ : zC1 125 151 7 M M8833_ := (zC1_u (zC1_u j7z8696_ e8829_ (by decide)) e8834_ (by decide))
                      have j8847_ : zC1 126 152 7 M M8833_ := (zC1_u (zC1_u j8z8696_ e8829_ (by decide)) e8834_ (by decide))
                      have j8848_ : zC1 127 153 7 M M8833_ := (zC1_u (zC1_u j9z8696_ e8829_ (by decide)) e8834_ (by decide))
                      have j8849_ : zC1 128 154 7 M M8833_ := (zC1_u (zC1_u j10z8696_ e8829_ (by decide)) e8834_ (by decide))
                      have j8850_ : zC1 129 155 7 M M8833_ := (zC1_u (zC1_u j11z8696_ e8829_ (by decide)) e8834_ (by decide))
                      have j8851_ : zC1 131 162 7 M M8833_ := (zC1_u (zC1_u j12z8696_ e8829_ (by decide)) e8834_ (by decide))
                      have j8852_ : zC1 145 157 7 M M8833_ := (zC1_u (zC1_u j13z8696_ e8829_ (by decide)) e8834_ (by decide))
                      have j8853_ : zC1 130 156 28 M M8833_ := (zC1_u (zC1_u j14z8696_ e8829_ (by decide)) e8834_ (by decide))
                      have j8854_ : zC1 147 158 (Int32.toNatClampNeg (i1z8696_ + 1)) M M8833_ := (zC1_n (znp1 b8826_ (by decide) (by decide)) (zC1_u (zC1_w j15z8696_ e8829_ (fz8696_ 158 (Int32.toNatClampNeg i1z8696_) rfl)) e8834_ (by decide)))
                      have j8855_ : zC1 148 159 (Int32.toNatClampNeg (i1z8696_ + 1)) M M8833_ := (zC1_n (znp1 b8826_ (by decide) (by decide)) (zC1_w (zC1_u j16z8696_ e8829_ (by decide)) e8834_ ((pvu_n e8829_ 159 (Int32.toNatClampNeg i1z8696_) (Or.inl (by decide))).trans (fz8696_ 159 (Int32.toNatClampNeg i1z8696_) rfl))))
                      exact ihz8696_ (i1z8696_ + 1) M8833_ o8835_ f8836_ (((pvu_n e8834_ 124 46 (Or.inl (by decide))).trans (pvu_n e8829_ 124 46 (Or.inl (by decide)))).trans (k124_46z8696_)) (zr_wide b8837_ (by decide) (by decide)) j8839_ j8840_ j8841_ j8842_ j8843_ j8844_ j8845_ j8846_ j8847_ j8848_ j8849_ j8850_ j8851_ j8852_ j8853_ j8854_ j8855_ (zhid (by have hm0 := zshow hmz8696_; have y01 : Int32.toInt (M8833_.1 124 15) = Int32.toInt (Mz8696_.1 124 15) := congrArg Int32.toInt ((pvu_n e8834_ 124 15 (Or.inl (by decide))).trans (pvu_n e8829_ 124 15 (Or.inl (by decide)))); have y11 : Int32.toInt (M8833_.1 124 3) = Int32.toInt (Mz8696_.1 124 3) := congrArg Int32.toInt ((pvu_n e8834_ 124 3 (Or.inl (by decide))).trans (pvu_n e8829_ 124 3 (Or.inl (by decide)))); omega))
                have u8856_ : Int32.toInt 0 = 0 := by decide
                have j8857_ : Int32.toInt (Mz8311_.1 124 15) = Int32.toInt (M.1 124 47) := (by omega)
                have j8858_ : Int32.toInt (Mz8311_.1 124 3) = Int32.toInt (M.1 124 51) := (by omega)
                have j8859_ : Mz8311_.1 124 0 = (M.1 124 48) := j2z8311_
                have j8860_ : Mz8311_.1 124 3 = (M.1 124 51) := j3z8311_
                have j8861_ : Mz8311_.1 124 4 = (M.1 124 52) := j4z8311_
                have j8862_ : Mz8311_.1 124 40 = (M.1 124 56) := j5z8311_
                have j8863_ : Mz8311_.1 124 43 = (M.1 124 57) := j6z8311_
                have j8864_ : zC1 125 151 7 M Mz8311_ := j7z8311_
                have j8865_ : zC1 126 152 7 M Mz8311_ := j8z8311_
                have j8866_ : zC1 127 153 7 M Mz8311_ := j9z8311_
                have j8867_ : zC1 128 154 7 M Mz8311_ := j10z8311_
                have j8868_ : zC1 129 155 7 M Mz8311_ := j11z8311_
                have j8869_ : zC1 131 162 7 M Mz8311_ := j12z8311_
                have j8870_ : zC1 145 157 7 M Mz8311_ := j13z8311_
                have j8871_ : zC1 130 156 28 M Mz8311_ := (zC1_n (znp0 b8315_) j14z8311_)
                have j8872_ : zC1 147 158 (Int32.toNatClampNeg 0) M Mz8311_ := (zC1_0 147 158 M Mz8311_)
                have j8873_ : zC1 148 159 (Int32.toNatClampNeg 0) M Mz8311_ := (zC1_0 148 159 M Mz8311_)
                exact hlz8696_ _ 0 Mz8311_ oz8311_ fz8311_ rfl (zr_wide (show 0 ≤ Int32.toInt 0 ∧ Int32.toInt 0 ≤ 0 from (by decide)) (by decide) (by decide)) j8857_ j8858_ j8859_ j8860_ j8861_ j8862_ j8863_ j8864_ j8865_ j8866_ j8867_ j8868_ j8869_ j8870_ j8871_ j8872_ j8873_ (zhid (Nat.lt_succ_self _))
              · have b8874_ : 0 ≤ Int32.toInt i1z8311_ ∧ Int32.toInt i1z8311_ ≤ 27 := zr_nle_r 27 c8314_ h1z8311_ (show 28 ≤ Int32.toInt 28 ∧ Int32.toInt 28 ≤ 28 from (by decide)) (by decide)
                have b8875_ : 0 ≤ Int32.toInt (Mz8311_.1 156 (Int32.toNatClampNeg i1z8311_)) ∧ Int32.toInt (Mz8311_.1 156 (Int32.toNatClampNeg i1z8311_)) ≤ 9 := pvok_r oz8311_ 156 (Int32.toNatClampNeg i1z8311_) rfl
                refine pw_blkw hT 8 (pc := 216) (lo := [some (pvR 124), some (pvI i1z8311_)]) (st := []) (M := pvu Mz8311_ 130 (Int32.toNatClampNeg i1z8311_) (Mz8311_.1 156 (Int32.toNatClampNeg i1z8311_))) rfl ⟨trivial, rfl, trivial, trivial, rfl, trivial, ⟨rfl, (zr_in (n := 28) b8874_ (by decide) (by decide))⟩, ⟨rfl, (zr_in (n := 28) b8874_ (by decide) (by decide))⟩, trivial⟩ (fun M8876_ e8877_ => ?_)
                have o8878_ : pvOk M8876_ := pvok_u2 e8877_ oz8311_ rfl b8875_
                have f8879_ : pvFr fp_eX10_undo_124 M M8876_ := pvfr_u e8877_ fz8311_ rfl
                obtain ⟨q8881_, b8880_⟩ : (Int32.toInt (i1z8311_ + 1) = Int32.toInt i1z8311_ + 1) ∧ (1 ≤ Int32.toInt (i1z8311_ + 1) ∧ Int32.toInt (i1z8311_ + 1) ≤ 28) := zadd_k i1z8311_ 1 1 1 28 b8874_ (by decide) (by decide) (by decide) (by decide) (by decide)
                refine pw_blk hT 2 (S' := (198, [some (pvR 124), some (pvI (i1z8311_ + 1))], [], M8876_)) rfl ⟨trivial, trivial, trivial⟩ ?_
                have j8882_ : Int32.toInt (M8876_.1 124 15) = Int32.toInt (M.1 124 47) := (by have y01 : Int32.toInt (M8876_.1 124 15) = Int32.toInt (Mz8311_.1 124 15) := congrArg Int32.toInt (pvu_n e8877_ 124 15 (Or.inl (by decide))); omega)
                have j8883_ : Int32.toInt (M8876_.1 124 3) = Int32.toInt (M.1 124 51) := (by have y01 : Int32.toInt (M8876_.1 124 3) = Int32.toInt (Mz8311_.1 124 3) := congrArg Int32.toInt (pvu_n e8877_ 124 3 (Or.inl (by decide))); omega)
                have j8884_ : M8876_.1 124 0 = (M.1 124 48) := ((pvu_n e8877_ 124 0 (Or.inl (by decide))).trans (j2z8311_))
                have j8885_ : M8876_.1 124 3 = (M.1 124 51) := ((pvu_n e8877_ 124 3 (Or.inl (by decide))).trans (j3z8311_))
                have j8886_ : M8876_.1 124 4 = (M.1 124 52) := ((pvu_n e8877_ 124 4 (Or.inl (by decide))).trans (j4z8311_))
                have j8887_ : M8876_.1 124 40 = (M.1 124 56) := ((pvu_n e8877_ 124 40 (Or.inl (by decide))).trans (j5z8311_))
                have j8888_ : M8876_.1 124 43 = (M.1 124 57) := ((pvu_n e8877_ 124 43 (Or.inl (by decide))).trans (j6z8311_))
                have j8889_ : zC1 125 151 7 M M8876_ := (zC1_u j7z8311_ e8877_ (by decide))
                have j8890_ : zC1 126 152 7 M M8876_ := (zC1_u j8z8311_ e8877_ (by decide))
                have j8891_ : zC1 127 153 7 M M8876_ := (zC1_u j9z8311_ e8877_ (by decide))
                have j8892_ : zC1 128 154 7 M M8876_ := (zC1_u j10z8311_ e8877_ (by decide))
                have j8893_ : zC1 129 155 7 M M8876_ := (zC1_u j11z8311_ e8877_ (by decide))
                have j8894_ : zC1 131 162 7 M M8876_ := (zC1_u j12z8311_ e8877_ (by decide))
                have j8895_ : zC1 145 157 7 M M8876_ := (zC1_u j13z8311_ e8877_ (by decide))
                have j8896_ : zC1 130 156 (Int32.toNatClampNeg (i1z8311_ + 1)) M M8876_ := (zC1_n (znp1 b8874_ (by decide) (by decide)) (zC1_w j14z8311_ e8877_ (fz8311_ 156 (Int32.toNatClampNeg i1z8311_) rfl)))
                exact ihz8311_ (i1z8311_ + 1) M8876_ o8878_ f8879_ ((pvu_n e8877_ 124 46 (Or.inl (by decide))).trans (k124_46z8311_)) (zr_wide b8880_ (by decide) (by decide)) j8882_ j8883_ j8884_ j8885_ j8886_ j8887_ j8888_ j8889_ j8890_ j8891_ j8892_ j8893_ j8894_ j8895_ j8896_ (zhid (by have hm0 := zshow hmz8311_; have y01 : Int32.toInt (M8876_.1 124 15) = Int32.toInt (Mz8311_.1 124 15) := congrArg Int32.toInt (pvu_n e8877_ 124 15 (Or.inl (by decide))); have y11 : Int32.toInt (M8876_.1 124 3) = Int32.toInt (Mz8311_.1 124 3) := congrArg Int32.toInt (pvu_n e8877_ 124 3 (Or.inl (by decide))); omega))
          have u8897_ : Int32.toInt 0 = 0 := by decide
          have j8898_ : Int32.toInt (Mz6698_.1 124 15) = Int32.toInt (M.1 124 47) := (by omega)
          have j8899_ : Int32.toInt (Mz6698_.1 124 3) = Int32.toInt (M.1 124 51) := (by omega)
          have j8900_ : Mz6698_.1 124 0 = (M.1 124 48) := j2z6698_
          have j8901_ : Mz6698_.1 124 3 = (M.1 124 51) := j3z6698_
          have j8902_ : Mz6698_.1 124 4 = (M.1 124 52) := j4z6698_
          have j8903_ : Mz6698_.1 124 40 = (M.1 124 56) := j5z6698_
          have j8904_ : Mz6698_.1 124 43 = (M.1 124 57) := j6z6698_
          have j8905_ : zC1 125 151 7 M Mz6698_ := (zC1_n (znp0 b6702_) j7z6698_)
          have j8906_ : zC1 126 152 7 M Mz6698_ := (zC1_n (znp0 b6702_) j8z6698_)
          have j8907_ : zC1 127 153 7 M Mz6698_ := (zC1_n (znp0 b6702_) j9z6698_)
          have j8908_ : zC1 128 154 7 M Mz6698_ := (zC1_n (znp0 b6702_) j10z6698_)
          have j8909_ : zC1 129 155 7 M Mz6698_ := (zC1_n (znp0 b6702_) j11z6698_)
          have j8910_ : zC1 131 162 7 M Mz6698_ := (zC1_n (znp0 b6702_) j12z6698_)
          have j8911_ : zC1 145 157 7 M Mz6698_ := (zC1_n (znp0 b6702_) j13z6698_)
          have j8912_ : zC1 130 156 (Int32.toNatClampNeg 0) M Mz6698_ := (zC1_0 130 156 M Mz6698_)
          exact hlz8311_ _ 0 Mz6698_ oz6698_ fz6698_ rfl (zr_wide (show 0 ≤ Int32.toInt 0 ∧ Int32.toInt 0 ≤ 0 from (by decide)) (by decide) (by decide)) j8898_ j8899_ j8900_ j8901_ j8902_ j8903_ j8904_ j8905_ j8906_ j8907_ j8908_ j8909_ j8910_ j8911_ j8912_ (zhid (Nat.lt_succ_self _))
        · have b8913_ : 0 ≤ Int32.toInt i1z6698_ ∧ Int32.toInt i1z6698_ ≤ 6 := zr_nle_r 6 c6701_ h1z6698_ (show 7 ≤ Int32.toInt 7 ∧ Int32.toInt 7 ≤ 7 from (by decide)) (by decide)
          have b8914_ : 0 ≤ Int32.toInt (Mz6698_.1 151 (Int32.toNatClampNeg i1z6698_)) ∧ Int32.toInt (Mz6698_.1 151 (Int32.toNatClampNeg i1z6698_)) ≤ 6 := pvok_r oz6698_ 151 (Int32.toNatClampNeg i1z6698_) rfl
          refine pw_blkw hT 8 (pc := 118) (lo := [some (pvR 124), some (pvI i1z6698_)]) (st := []) (M := pvu Mz6698_ 125 (Int32.toNatClampNeg i1z6698_) (Mz6698_.1 151 (Int32.toNatClampNeg i1z6698_))) rfl ⟨trivial, rfl, trivial, trivial, rfl, trivial, ⟨rfl, (zr_in (n := 7) b8913_ (by decide) (by decide))⟩, ⟨rfl, (zr_in (n := 7) b8913_ (by decide) (by decide))⟩, trivial⟩ (fun M8915_ e8916_ => ?_)
          have o8917_ : pvOk M8915_ := pvok_u2 e8916_ oz6698_ rfl b8914_
          have f8918_ : pvFr fp_eX10_undo_124 M M8915_ := pvfr_u e8916_ fz6698_ rfl
          have b8919_ : 0 ≤ Int32.toInt (M8915_.1 152 (Int32.toNatClampNeg i1z6698_)) ∧ Int32.toInt (M8915_.1 152 (Int32.toNatClampNeg i1z6698_)) ≤ 9 := pvok_r o8917_ 152 (Int32.toNatClampNeg i1z6698_) rfl
          refine pw_blkw hT 8 (pc := 130) (lo := [some (pvR 124), some (pvI i1z6698_)]) (st := []) (M := pvu M8915_ 126 (Int32.toNatClampNeg i1z6698_) (M8915_.1 152 (Int32.toNatClampNeg i1z6698_))) rfl ⟨trivial, rfl, trivial, trivial, rfl, trivial, ⟨rfl, (zr_in (n := 7) b8913_ (by decide) (by decide))⟩, ⟨rfl, (zr_in (n := 7) b8913_ (by decide) (by decide))⟩, trivial⟩ (fun M8920_ e8921_ => ?_)
          have o8922_ : pvOk M8920_ := pvok_u2 e8921_ o8917_ rfl b8919_
          have f8923_ : pvFr fp_eX10_undo_124 M M8920_ := pvfr_u e8921_ f8918_ rfl
          have b8924_ : 0 ≤ Int32.toInt (M8920_.1 153 (Int32.toNatClampNeg i1z6698_)) ∧ Int32.toInt (M8920_.1 153 (Int32.toNatClampNeg i1z6698_)) ≤ 3 := pvok_r o8922_ 153 (Int32.toNatClampNeg i1z6698_) rfl
          refine pw_blkw hT 8 (pc := 142) (lo := [some (pvR 124), some (pvI i1z6698_)]) (st := []) (M := pvu M8920_ 127 (Int32.toNatClampNeg i1z6698_) (M8920_.1 153 (Int32.toNatClampNeg i1z6698_))) rfl ⟨trivial, rfl, trivial, trivial, rfl, trivial, ⟨rfl, (zr_in (n := 7) b8913_ (by decide) (by decide))⟩, ⟨rfl, (zr_in (n := 7) b8913_ (by decide) (by decide))⟩, trivial⟩ (fun M8925_ e8926_ => ?_)
          have o8927_ : pvOk M8925_ := pvok_u2 e8926_ o8922_ rfl b8924_
          have f8928_ : pvFr fp_eX10_undo_124 M M8925_ := pvfr_u e8926_ f8923_ rfl
          have b8929_ : 0 ≤ Int32.toInt (M8925_.1 154 (Int32.toNatClampNeg i1z6698_)) ∧ Int32.toInt (M8925_.1 154 (Int32.toNatClampNeg i1z6698_)) ≤ 4 := pvok_r o8927_ 154 (Int32.toNatClampNeg i1z6698_) rfl
          refine pw_blkw hT 8 (pc := 154) (lo := [some (pvR 124), some (pvI i1z6698_)]) (st := []) (M := pvu M8925_ 128 (Int32.toNatClampNeg i1z6698_) (M8925_.1 154 (Int32.toNatClampNeg i1z6698_))) rfl ⟨trivial, rfl, trivial, trivial, rfl, trivial, ⟨rfl, (zr_in (n := 7) b8913_ (by decide) (by decide))⟩, ⟨rfl, (zr_in (n := 7) b8913_ (by decide) (by decide))⟩, trivial⟩ (fun M8930_ e8931_ => ?_)
          have o8932_ : pvOk M8930_ := pvok_u2 e8931_ o8927_ rfl b8929_
          have f8933_ : pvFr fp_eX10_undo_124 M M8930_ := pvfr_u e8931_ f8928_ rfl
          have b8934_ : 0 ≤ Int32.toInt (M8930_.1 155 (Int32.toNatClampNeg i1z6698_)) ∧ Int32.toInt (M8930_.1 155 (Int32.toNatClampNeg i1z6698_)) ≤ 9 := pvok_r o8932_ 155 (Int32.toNatClampNeg i1z6698_) rfl
          refine pw_blkw hT 8 (pc := 166) (lo := [some (pvR 124), some (pvI i1z6698_)]) (st := []) (M := pvu M8930_ 129 (Int32.toNatClampNeg i1z6698_) (M8930_.1 155 (Int32.toNatClampNeg i1z6698_))) rfl ⟨trivial, rfl, trivial, trivial, rfl, trivial, ⟨rfl, (zr_in (n := 7) b8913_ (by decide) (by decide))⟩, ⟨rfl, (zr_in (n := 7) b8913_ (by decide) (by decide))⟩, trivial⟩ (fun M8935_ e8936_ => ?_)
          have o8937_ : pvOk M8935_ := pvok_u2 e8936_ o8932_ rfl b8934_
          have f8938_ : pvFr fp_eX10_undo_124 M M8935_ := pvfr_u e8936_ f8933_ rfl
          have b8939_ : 0 ≤ Int32.toInt (M8935_.1 162 (Int32.toNatClampNeg i1z6698_)) ∧ Int32.toInt (M8935_.1 162 (Int32.toNatClampNeg i1z6698_)) ≤ 1 := pvok_r o8937_ 162 (Int32.toNatClampNeg i1z6698_) rfl
          refine pw_blkw hT 8 (pc := 178) (lo := [some (pvR 124), some (pvI i1z6698_)]) (st := []) (M := pvu M8935_ 131 (Int32.toNatClampNeg i1z6698_) (vp_nar .boolean (M8935_.1 162 (Int32.toNatClampNeg i1z6698_)))) rfl ⟨trivial, rfl, trivial, trivial, rfl, trivial, ⟨rfl, (zr_in (n := 7) b8913_ (by decide) (by decide))⟩, ⟨rfl, (zr_in (n := 7) b8913_ (by decide) (by decide))⟩, trivial⟩ (fun M8940_ e8941_ => ?_)
          have o8942_ : pvOk M8940_ := pvok_u2 e8941_ o8937_ rfl (zboolr (M8935_.1 162 (Int32.toNatClampNeg i1z6698_)))
          have f8943_ : pvFr fp_eX10_undo_124 M M8940_ := pvfr_u e8941_ f8938_ rfl
          have b8944_ : 0 ≤ Int32.toInt (M8940_.1 157 (Int32.toNatClampNeg i1z6698_)) ∧ Int32.toInt (M8940_.1 157 (Int32.toNatClampNeg i1z6698_)) ≤ 6 := pvok_r o8942_ 157 (Int32.toNatClampNeg i1z6698_) rfl
          refine pw_blkw hT 8 (pc := 190) (lo := [some (pvR 124), some (pvI i1z6698_)]) (st := []) (M := pvu M8940_ 145 (Int32.toNatClampNeg i1z6698_) (M8940_.1 157 (Int32.toNatClampNeg i1z6698_))) rfl ⟨trivial, rfl, trivial, trivial, rfl, trivial, ⟨rfl, (zr_in (n := 7) b8913_ (by decide) (by decide))⟩, ⟨rfl, (zr_in (n := 7) b8913_ (by decide) (by decide))⟩, trivial⟩ (fun M8945_ e8946_ => ?_)
          have o8947_ : pvOk M8945_ := pvok_u2 e8946_ o8942_ rfl b8944_
          have f8948_ : pvFr fp_eX10_undo_124 M M8945_ := pvfr_u e8946_ f8943_ rfl
          obtain ⟨q8950_, b8949_⟩ : (Int32.toInt (i1z6698_ + 1) = Int32.toInt i1z6698_ + 1) ∧ (1 ≤ Int32.toInt (i1z6698_ + 1) ∧ Int32.toInt (i1z6698_ + 1) ≤ 7) := zadd_k i1z6698_ 1 1 1 7 b8913_ (by decide) (by decide) (by decide) (by decide) (by decide)
          refine pw_blk hT 2 (S' := (100, [some (pvR 124), some (pvI (i1z6698_ + 1))], [], M8945_)) rfl ⟨trivial, trivial, trivial⟩ ?_
          have j8951_ : Int32.toInt (M8945_.1 124 15) = Int32.toInt (M.1 124 47) := (by have y01 : Int32.toInt (M8945_.1 124 15) = Int32.toInt (Mz6698_.1 124 15) := congrArg Int32.toInt (((((((pvu_n e8946_ 124 15 (Or.inl (by decide))).trans (pvu_n e8941_ 124 15 (Or.inl (by decide)))).trans (pvu_n e8936_ 124 15 (Or.inl (by decide)))).trans (pvu_n e8931_ 124 15 (Or.inl (by decide)))).trans (pvu_n e8926_ 124 15 (Or.inl (by decide)))).trans (pvu_n e8921_ 124 15 (Or.inl (by decide)))).trans (pvu_n e8916_ 124 15 (Or.inl (by decide)))); omega)
          have j8952_ : Int32.toInt (M8945_.1 124 3) = Int32.toInt (M.1 124 51) := (by have y01 : Int32.toInt (M8945_.1 124 3) = Int32.toInt (Mz6698_.1 124 3) := congrArg Int32.toInt (((((((pvu_n e8946_ 124 3 (Or.inl (by decide))).trans (pvu_n e8941_ 124 3 (Or.inl (by decide)))).trans (pvu_n e8936_ 124 3 (Or.inl (by decide)))).trans (pvu_n e8931_ 124 3 (Or.inl (by decide)))).trans (pvu_n e8926_ 124 3 (Or.inl (by decide)))).trans (pvu_n e8921_ 124 3 (Or.inl (by decide)))).trans (pvu_n e8916_ 124 3 (Or.inl (by decide)))); omega)
          have j8953_ : M8945_.1 124 0 = (M.1 124 48) := ((((((((pvu_n e8946_ 124 0 (Or.inl (by decide))).trans (pvu_n e8941_ 124 0 (Or.inl (by decide)))).trans (pvu_n e8936_ 124 0 (Or.inl (by decide)))).trans (pvu_n e8931_ 124 0 (Or.inl (by decide)))).trans (pvu_n e8926_ 124 0 (Or.inl (by decide)))).trans (pvu_n e8921_ 124 0 (Or.inl (by decide)))).trans (pvu_n e8916_ 124 0 (Or.inl (by decide)))).trans (j2z6698_))
          have j8954_ : M8945_.1 124 3 = (M.1 124 51) := ((((((((pvu_n e8946_ 124 3 (Or.inl (by decide))).trans (pvu_n e8941_ 124 3 (Or.inl (by decide)))).trans (pvu_n e8936_ 124 3 (Or.inl (by decide)))).trans (pvu_n e8931_ 124 3 (Or.inl (by decide)))).trans (pvu_n e8926_ 124 3 (Or.inl (by decide)))).trans (pvu_n e8921_ 124 3 (Or.inl (by decide)))).trans (pvu_n e8916_ 124 3 (Or.inl (by decide)))).trans (j3z6698_))
          have j8955_ : M8945_.1 124 4 = (M.1 124 52) := ((((((((pvu_n e8946_ 124 4 (Or.inl (by decide))).trans (pvu_n e8941_ 124 4 (Or.inl (by decide)))).trans (pvu_n e8936_ 124 4 (Or.inl (by decide)))).trans (pvu_n e8931_ 124 4 (Or.inl (by decide)))).trans (pvu_n e8926_ 124 4 (Or.inl (by decide)))).trans (pvu_n e8921_ 124 4 (Or.inl (by decide)))).trans (pvu_n e8916_ 124 4 (Or.inl (by decide)))).trans (j4z6698_))
          have j8956_ : M8945_.1 124 40 = (M.1 124 56) := ((((((((pvu_n e8946_ 124 40 (Or.inl (by decide))).trans (pvu_n e8941_ 124 40 (Or.inl (by decide)))).trans (pvu_n e8936_ 124 40 (Or.inl (by decide)))).trans (pvu_n e8931_ 124 40 (Or.inl (by decide)))).trans (pvu_n e8926_ 124 40 (Or.inl (by decide)))).trans (pvu_n e8921_ 124 40 (Or.inl (by decide)))).trans (pvu_n e8916_ 124 40 (Or.inl (by decide)))).trans (j5z6698_))
          have j8957_ : M8945_.1 124 43 = (M.1 124 57) := ((((((((pvu_n e8946_ 124 43 (Or.inl (by decide))).trans (pvu_n e8941_ 124 43 (Or.inl (by decide)))).trans (pvu_n e8936_ 124 43 (Or.inl (by decide)))).trans (pvu_n e8931_ 124 43 (Or.inl (by decide)))).trans (pvu_n e8926_ 124 43 (Or.inl (by decide)))).trans (pvu_n e8921_ 124 43 (Or.inl (by decide)))).trans (pvu_n e8916_ 124 43 (Or.inl (by decide)))).trans (j6z6698_))
          have j8958_ : zC1 125 151 (Int32.toNatClampNeg (i1z6698_ + 1)) M M8945_ := (zC1_n (znp1 b8913_ (by decide) (by decide)) (zC1_u (zC1_u (zC1_u (zC1_u (zC1_u (zC1_u (zC1_w j7z6698_ e8916_ (fz6698_ 151 (Int32.toNatClampNeg i1z6698_) rfl)) e8921_ (by decide)) e8926_ (by decide)) e8931_ (by decide)) e8936_ (by decide)) e8941_ (by decide)) e8946_ (by decide)))
          have j8959_ : zC1 126 152 (Int32.toNatClampNeg (i1z6698_ + 1)) M M8945_ := (zC1_n (znp1 b8913_ (by decide) (by decide)) (zC1_u (zC1_u (zC1_u (zC1_u (zC1_u (zC1_w (zC1_u j8z6698_ e8916_ (by decide)) e8921_ ((pvu_n e8916_ 152 (Int32.toNatClampNeg i1z6698_) (Or.inl (by decide))).trans (fz6698_ 152 (Int32.toNatClampNeg i1z6698_) rfl))) e8926_ (by decide)) e8931_ (by decide)) e8936_ (by decide)) e8941_ (by decide)) e8946_ (by decide)))
          have j8960_ : zC1 127 153 (Int32.toNatClampNeg (i1z6698_ + 1)) M M8945_ := (zC1_n (znp1 b8913_ (by decide) (by decide)) (zC1_u (zC1_u (zC1_u (zC1_u (zC1_w (zC1_u (zC1_u j9z6698_ e8916_ (by decide)) e8921_ (by decide)) e8926_ (((pvu_n e8921_ 153 (Int32.toNatClampNeg i1z6698_) (Or.inl (by decide))).trans (pvu_n e8916_ 153 (Int32.toNatClampNeg i1z6698_) (Or.inl (by decide)))).trans (fz6698_ 153 (Int32.toNatClampNeg i1z6698_) rfl))) e8931_ (by decide)) e8936_ (by decide)) e8941_ (by decide)) e8946_ (by decide)))
          have j8961_ : zC1 128 154 (Int32.toNatClampNeg (i1z6698_ + 1)) M M8945_ := (zC1_n (znp1 b8913_ (by decide) (by decide)) (zC1_u (zC1_u (zC1_u (zC1_w (zC1_u (zC1_u (zC1_u j10z6698_ e8916_ (by decide)) e8921_ (by decide)) e8926_ (by decide)) e8931_ ((((pvu_n e8926_ 154 (Int32.toNatClampNeg i1z6698_) (Or.inl (by decide))).trans (pvu_n e8921_ 154 (Int32.toNatClampNeg i1z6698_) (Or.inl (by decide)))).trans (pvu_n e8916_ 154 (Int32.toNatClampNeg i1z6698_) (Or.inl (by decide)))).trans (fz6698_ 154 (Int32.toNatClampNeg i1z6698_) rfl))) e8936_ (by decide)) e8941_ (by decide)) e8946_ (by decide)))
          have j8962_ : zC1 129 155 (Int32.toNatClampNeg (i1z6698_ + 1)) M M8945_ := (zC1_n (znp1 b8913_ (by decide) (by decide)) (zC1_u (zC1_u (zC1_w (zC1_u (zC1_u (zC1_u (zC1_u j11z6698_ e8916_ (by decide)) e8921_ (by decide)) e8926_ (by decide)) e8931_ (by decide)) e8936_ (((((pvu_n e8931_ 155 (Int32.toNatClampNeg i1z6698_) (Or.inl (by decide))).trans (pvu_n e8926_ 155 (Int32.toNatClampNeg i1z6698_) (Or.inl (by decide)))).trans (pvu_n e8921_ 155 (Int32.toNatClampNeg i1z6698_) (Or.inl (by decide)))).trans (pvu_n e8916_ 155 (Int32.toNatClampNeg i1z6698_) (Or.inl (by decide)))).trans (fz6698_ 155 (Int32.toNatClampNeg i1z6698_) rfl))) e8941_ (by decide)) e8946_ (by decide)))
          have j8963_ : zC1 131 162 (Int32.toNatClampNeg (i1z6698_ + 1)) M M8945_ := (zC1_n (znp1 b8913_ (by decide) (by decide)) (zC1_u (zC1_w (zC1_u (zC1_u (zC1_u (zC1_u (zC1_u j12z6698_ e8916_ (by decide)) e8921_ (by decide)) e8926_ (by decide)) e8931_ (by decide)) e8936_ (by decide)) e8941_ ((zvnar b8939_).trans ((((((pvu_n e8936_ 162 (Int32.toNatClampNeg i1z6698_) (Or.inl (by decide))).trans (pvu_n e8931_ 162 (Int32.toNatClampNeg i1z6698_) (Or.inl (by decide)))).trans (pvu_n e8926_ 162 (Int32.toNatClampNeg i1z6698_) (Or.inl (by decide)))).trans (pvu_n e8921_ 162 (Int32.toNatClampNeg i1z6698_) (Or.inl (by decide)))).trans (pvu_n e8916_ 162 (Int32.toNatClampNeg i1z6698_) (Or.inl (by decide)))).trans (fz6698_ 162 (Int32.toNatClampNeg i1z6698_) rfl)))) e8946_ (by decide)))
          have j8964_ : zC1 145 157 (Int32.toNatClampNeg (i1z6698_ + 1)) M M8945_ := (zC1_n (znp1 b8913_ (by decide) (by decide)) (zC1_w (zC1_u (zC1_u (zC1_u (zC1_u (zC1_u (zC1_u j13z6698_ e8916_ (by decide)) e8921_ (by decide)) e8926_ (by decide)) e8931_ (by decide)) e8936_ (by decide)) e8941_ (by decide)) e8946_ (((((((pvu_n e8941_ 157 (Int32.toNatClampNeg i1z6698_) (Or.inl (by decide))).trans (pvu_n e8936_ 157 (Int32.toNatClampNeg i1z6698_) (Or.inl (by decide)))).trans (pvu_n e8931_ 157 (Int32.toNatClampNeg i1z6698_) (Or.inl (by decide)))).trans (pvu_n e8926_ 157 (Int32.toNatClampNeg i1z6698_) (Or.inl (by decide)))).trans (pvu_n e8921_ 157 (Int32.toNatClampNeg i1z6698_) (Or.inl (by decide)))).trans (pvu_n e8916_ 157 (Int32.toNatClampNeg i1z6698_) (Or.inl (by decide)))).trans (fz6698_ 157 (Int32.toNatClampNeg i1z6698_) rfl))))
          exact ihz6698_ (i1z6698_ + 1) M8945_ o8947_ f8948_ ((((((((pvu_n e8946_ 124 46 (Or.inl (by decide))).trans (pvu_n e8941_ 124 46 (Or.inl (by decide)))).trans (pvu_n e8936_ 124 46 (Or.inl (by decide)))).trans (pvu_n e8931_ 124 46 (Or.inl (by decide)))).trans (pvu_n e8926_ 124 46 (Or.inl (by decide)))).trans (pvu_n e8921_ 124 46 (Or.inl (by decide)))).trans (pvu_n e8916_ 124 46 (Or.inl (by decide)))).trans (k124_46z6698_)) (zr_wide b8949_ (by decide) (by decide)) j8951_ j8952_ j8953_ j8954_ j8955_ j8956_ j8957_ j8958_ j8959_ j8960_ j8961_ j8962_ j8963_ j8964_ (zhid (by have hm0 := zshow hmz6698_; have y01 : Int32.toInt (M8945_.1 124 15) = Int32.toInt (Mz6698_.1 124 15) := congrArg Int32.toInt (((((((pvu_n e8946_ 124 15 (Or.inl (by decide))).trans (pvu_n e8941_ 124 15 (Or.inl (by decide)))).trans (pvu_n e8936_ 124 15 (Or.inl (by decide)))).trans (pvu_n e8931_ 124 15 (Or.inl (by decide)))).trans (pvu_n e8926_ 124 15 (Or.inl (by decide)))).trans (pvu_n e8921_ 124 15 (Or.inl (by decide)))).trans (pvu_n e8916_ 124 15 (Or.inl (by decide)))); have y11 : Int32.toInt (M8945_.1 124 3) = Int32.toInt (Mz6698_.1 124 3) := congrArg Int32.toInt (((((((pvu_n e8946_ 124 3 (Or.inl (by decide))).trans (pvu_n e8941_ 124 3 (Or.inl (by decide)))).trans (pvu_n e8936_ 124 3 (Or.inl (by decide)))).trans (pvu_n e8931_ 124 3 (Or.inl (by decide)))).trans (pvu_n e8926_ 124 3 (Or.inl (by decide)))).trans (pvu_n e8921_ 124 3 (Or.inl (by decide)))).trans (pvu_n e8916_ 124 3 (Or.inl (by decide)))); omega))
    have u8965_ : Int32.toInt 0 = 0 := by decide
    have j8966_ : Int32.toInt (M55_.1 124 15) = Int32.toInt (M.1 124 47) := (by have z1 : Int32.toInt (M55_.1 124 15) = Int32.toInt (M.1 124 47) := congrArg Int32.toInt (((((((((((pvu_n e56_ 124 15 (Or.inr (by decide))).trans (pvu_n e51_ 124 15 (Or.inr (by decide)))).trans (pvu_n e46_ 124 15 (Or.inr (by decide)))).trans (pvu_n e41_ 124 15 (Or.inr (by decide)))).trans (pvu_n e36_ 124 15 (Or.inr (by decide)))).trans (pvu_n e31_ 124 15 (Or.inr (by decide)))).trans (pvu_n e26_ 124 15 (Or.inr (by decide)))).trans (pvu_n e21_ 124 15 (Or.inr (by decide)))).trans (pvu_n e16_ 124 15 (Or.inr (by decide)))).trans (pvu_n e11_ 124 15 (Or.inr (by decide)))).trans (pvu_s e6_)); omega)
    have j8967_ : Int32.toInt (M55_.1 124 3) = Int32.toInt (M.1 124 51) := (by have z1 : Int32.toInt (M55_.1 124 3) = Int32.toInt (M20_.1 124 51) := congrArg Int32.toInt (((((((pvu_n e56_ 124 3 (Or.inr (by decide))).trans (pvu_n e51_ 124 3 (Or.inr (by decide)))).trans (pvu_n e46_ 124 3 (Or.inr (by decide)))).trans (pvu_n e41_ 124 3 (Or.inr (by decide)))).trans (pvu_n e36_ 124 3 (Or.inr (by decide)))).trans (pvu_n e31_ 124 3 (Or.inr (by decide)))).trans (pvu_s e26_)); have z2 : Int32.toInt (M20_.1 124 51) = Int32.toInt (M.1 124 51) := congrArg Int32.toInt ((((pvu_n e21_ 124 51 (Or.inr (by decide))).trans (pvu_n e16_ 124 51 (Or.inr (by decide)))).trans (pvu_n e11_ 124 51 (Or.inr (by decide)))).trans (pvu_n e6_ 124 51 (Or.inr (by decide)))); omega)
    have j8968_ : M55_.1 124 0 = (M.1 124 48) := (((((((((((pvu_n e56_ 124 0 (Or.inr (by decide))).trans (pvu_n e51_ 124 0 (Or.inr (by decide)))).trans (pvu_n e46_ 124 0 (Or.inr (by decide)))).trans (pvu_n e41_ 124 0 (Or.inr (by decide)))).trans (pvu_n e36_ 124 0 (Or.inr (by decide)))).trans (pvu_n e31_ 124 0 (Or.inr (by decide)))).trans (pvu_n e26_ 124 0 (Or.inr (by decide)))).trans (pvu_n e21_ 124 0 (Or.inr (by decide)))).trans (pvu_n e16_ 124 0 (Or.inr (by decide)))).trans (pvu_s e11_)).trans (pvu_n e6_ 124 48 (Or.inr (by decide))))
    have j8969_ : M55_.1 124 3 = (M.1 124 51) := ((((((((pvu_n e56_ 124 3 (Or.inr (by decide))).trans (pvu_n e51_ 124 3 (Or.inr (by decide)))).trans (pvu_n e46_ 124 3 (Or.inr (by decide)))).trans (pvu_n e41_ 124 3 (Or.inr (by decide)))).trans (pvu_n e36_ 124 3 (Or.inr (by decide)))).trans (pvu_n e31_ 124 3 (Or.inr (by decide)))).trans (pvu_s e26_)).trans ((((pvu_n e21_ 124 51 (Or.inr (by decide))).trans (pvu_n e16_ 124 51 (Or.inr (by decide)))).trans (pvu_n e11_ 124 51 (Or.inr (by decide)))).trans (pvu_n e6_ 124 51 (Or.inr (by decide)))))
    have j8970_ : M55_.1 124 4 = (M.1 124 52) := (((((((pvu_n e56_ 124 4 (Or.inr (by decide))).trans (pvu_n e51_ 124 4 (Or.inr (by decide)))).trans (pvu_n e46_ 124 4 (Or.inr (by decide)))).trans (pvu_n e41_ 124 4 (Or.inr (by decide)))).trans (pvu_n e36_ 124 4 (Or.inr (by decide)))).trans (pvu_s e31_)).trans (((((pvu_n e26_ 124 52 (Or.inr (by decide))).trans (pvu_n e21_ 124 52 (Or.inr (by decide)))).trans (pvu_n e16_ 124 52 (Or.inr (by decide)))).trans (pvu_n e11_ 124 52 (Or.inr (by decide)))).trans (pvu_n e6_ 124 52 (Or.inr (by decide)))))
    have j8971_ : M55_.1 124 40 = (M.1 124 56) := (((pvu_n e56_ 124 40 (Or.inr (by decide))).trans (pvu_s e51_)).trans (((((((((pvu_n e46_ 124 56 (Or.inr (by decide))).trans (pvu_n e41_ 124 56 (Or.inr (by decide)))).trans (pvu_n e36_ 124 56 (Or.inr (by decide)))).trans (pvu_n e31_ 124 56 (Or.inr (by decide)))).trans (pvu_n e26_ 124 56 (Or.inr (by decide)))).trans (pvu_n e21_ 124 56 (Or.inr (by decide)))).trans (pvu_n e16_ 124 56 (Or.inr (by decide)))).trans (pvu_n e11_ 124 56 (Or.inr (by decide)))).trans (pvu_n e6_ 124 56 (Or.inr (by decide)))))
    have j8972_ : M55_.1 124 43 = (M.1 124 57) := ((pvu_s e56_).trans ((((((((((pvu_n e51_ 124 57 (Or.inr (by decide))).trans (pvu_n e46_ 124 57 (Or.inr (by decide)))).trans (pvu_n e41_ 124 57 (Or.inr (by decide)))).trans (pvu_n e36_ 124 57 (Or.inr (by decide)))).trans (pvu_n e31_ 124 57 (Or.inr (by decide)))).trans (pvu_n e26_ 124 57 (Or.inr (by decide)))).trans (pvu_n e21_ 124 57 (Or.inr (by decide)))).trans (pvu_n e16_ 124 57 (Or.inr (by decide)))).trans (pvu_n e11_ 124 57 (Or.inr (by decide)))).trans (pvu_n e6_ 124 57 (Or.inr (by decide)))))
    have j8973_ : zC1 125 151 (Int32.toNatClampNeg 0) M M55_ := (zC1_0 125 151 M M55_)
    have j8974_ : zC1 126 152 (Int32.toNatClampNeg 0) M M55_ := (zC1_0 126 152 M M55_)
    have j8975_ : zC1 127 153 (Int32.toNatClampNeg 0) M M55_ := (zC1_0 127 153 M M55_)
    have j8976_ : zC1 128 154 (Int32.toNatClampNeg 0) M M55_ := (zC1_0 128 154 M M55_)
    have j8977_ : zC1 129 155 (Int32.toNatClampNeg 0) M M55_ := (zC1_0 129 155 M M55_)
    have j8978_ : zC1 131 162 (Int32.toNatClampNeg 0) M M55_ := (zC1_0 131 162 M M55_)
    have j8979_ : zC1 145 157 (Int32.toNatClampNeg 0) M M55_ := (zC1_0 145 157 M M55_)
    exact hlz6698_ _ 0 M55_ o57_ f58_ rfl (zr_wide (show 0 ≤ Int32.toInt 0 ∧ Int32.toInt 0 ≤ 0 from (by decide)) (by decide) (by decide)) j8966_ j8967_ j8968_ j8969_ j8970_ j8971_ j8972_ j8973_ j8974_ j8975_ j8976_ j8977_ j8978_ j8979_ (zhid (Nat.lt_succ_self _))
  · have b8980_ : 0 ≤ Int32.toInt (M.1 124 46) ∧ Int32.toInt (M.1 124 46) ≤ 0 := (by have u0 := b1_; have u1 := (zi_eq _ _).mp c2_; have u2 := (show 0 ≤ Int32.toInt 0 ∧ Int32.toInt 0 ≤ 0 from (by decide)); omega)
    refine pw_blk hT 1 (S' := (9, [some (pvR 124), none], [pvI (-3)], M)) rfl ⟨trivial, trivial⟩ ?_
    exact pw_ret hT rfl (r := some (pvI (-3))) (M' := M) ⟨rfl, rfl⟩ ⟨⟨_, rfl, (zr_wide (show (-3) ≤ Int32.toInt (-3) ∧ Int32.toInt (-3) ≤ (-3) from (by decide)) (by decide) (by decide)), (by rw [if_pos c2_]; first | done | (rw [if_pos c2_]; done))⟩, hok, pvfr_0, ⟨fun hz => ⟨by have z3 := hz.1; have z4 := hz.2.1; omega, by have z3 := hz.1; have z4 := hz.2.1; omega, fun a ha => pvWh_r rfl rfl rfl rfl rfl (hz.2.2 a (by omega))⟩, fun hc hc2 => by omega⟩, (Or.inl ⟨c2_, zKm_r 125 130 M⟩), (by rw [if_pos c2_]; first | done | exact rfl | (rw [if_pos c2_]; done) | (rw [if_pos c2_]; exact rfl)), (by rw [if_pos c2_]; first | done | exact rfl | (rw [if_pos c2_]; done) | (rw [if_pos c2_]; exact rfl)), (by rw [if_pos c2_]; first | done | exact rfl | (rw [if_pos c2_]; done) | (rw [if_pos c2_]; exact rfl)), (by rw [if_pos c2_]; first | done | exact rfl | (rw [if_pos c2_]; done) | (rw [if_pos c2_]; exact rfl)), (by rw [if_pos c2_]; first | done | exact rfl | (rw [if_pos c2_]; done) | (rw [if_pos c2_]; exact rfl))⟩
