def fpL_eX10_tape_124_x_x_x : List (Nat × Nat × Nat) := [(0, 164, 0), (0, 165, 0)]
def fp_eX10_tape_124_x_x_x (q k : Nat) : Bool := pvfp fpL_eX10_tape_124_x_x_x q k
set_option maxHeartbeats 4000000 in
set_option maxRecDepth 10000 in
theorem se_X10_tape_124_x_x_x (M : pvM) (hok : pvOk M) (n1 : Int32) (n2 : Int32) (n3 : Int32) (d : Nat) : PW 89 d (0, [some (pvR 124), some (pvI n1), some (pvI n2), some (pvI n3), none], [], M) (fun r X => (∃ x : Int32, r = some (pvI x) ∧ ((-14) ≤ Int32.toInt x ∧ Int32.toInt x ≤ 1) ∧ x = (if n1 < 0 then (-1) else (if 5 < n1 then (-1) else (if n2 < (-1) then (-2) else (if 4 < n2 then (-2) else (if n2 < 0 then 1 else (if n3 ≤ 60 then (if 0 ≤ n3 then 1 else (-14)) else (-2)))))))) ∧ pvOk X ∧ pvFr fp_eX10_tape_124_x_x_x M X) := by
  have hT : pvdom 89 = pvD_89 := rfl
  refine pw_blk hT 2 (S' := (2, [some (pvR 124), some (pvI n1), some (pvI n2), some (pvI n3), none], [pvI n1, pvR 124], M)) rfl ⟨trivial, trivial, trivial⟩ ?_
  refine pw_callT hT (as := [pvR 124, pvI n1]) (lo1 := [some (pvR 124), some (pvI n1)]) (d1 := d) (rest := []) rfl rfl rfl rfl rfl (fun _ => rfl) (Nat.zero_le _) rfl rfl rfl (sf_X10_isTape_124_x M hok n1 d) ?_
  by_cases c6_ : n1 < 0
  · refine pw_eqI (if_pos c6_) ?_
    have b7_ : (-2147483648) ≤ Int32.toInt n1 ∧ Int32.toInt n1 ≤ (-1) := zr_lt_l (-1) c6_ (zbnd n1) (show 0 ≤ Int32.toInt 0 ∧ Int32.toInt 0 ≤ 0 from (by decide)) (by decide)
    show PW 89 d (5, [some (pvR 124), some (pvI n1), some (pvI n2), some (pvI n3), none], [pvI 0], M) _
    refine pw_ifn hT (c := 0 = 0) rfl rfl (fun c8_ => absurd (by decide) c8_) (fun c8_ => ?_)
    refine pw_blk hT 1 (S' := (9, [some (pvR 124), some (pvI n1), some (pvI n2), some (pvI n3), none], [pvI (-1)], M)) rfl ⟨trivial, trivial⟩ ?_
    exact pw_ret hT rfl (r := some (pvI (-1))) (M' := M) ⟨rfl, rfl⟩ ⟨⟨_, rfl, (zr_wide (show (-1) ≤ Int32.toInt (-1) ∧ Int32.toInt (-1) ≤ (-1) from (by decide)) (by decide) (by decide)), (by rw [if_pos c6_]; first | done | (rw [if_pos c6_]; done))⟩, hok, pvfr_0⟩
  · refine pw_eqI (if_neg c6_) ?_
    have b9_ : 0 ≤ Int32.toInt n1 ∧ Int32.toInt n1 ≤ 2147483647 := zr_nlt_l 0 c6_ (zbnd n1) (show 0 ≤ Int32.toInt 0 ∧ Int32.toInt 0 ≤ 0 from (by decide)) (by decide)
    by_cases c10_ : 5 < n1
    · refine pw_eqI (if_pos c10_) ?_
      have b11_ : 6 ≤ Int32.toInt n1 ∧ Int32.toInt n1 ≤ 2147483647 := zr_lt_r 6 c10_ b9_ (show 5 ≤ Int32.toInt 5 ∧ Int32.toInt 5 ≤ 5 from (by decide)) (by decide)
      show PW 89 d (5, [some (pvR 124), some (pvI n1), some (pvI n2), some (pvI n3), none], [pvI 0], M) _
      refine pw_ifn hT (c := 0 = 0) rfl rfl (fun c12_ => absurd (by decide) c12_) (fun c12_ => ?_)
      refine pw_blk hT 1 (S' := (9, [some (pvR 124), some (pvI n1), some (pvI n2), some (pvI n3), none], [pvI (-1)], M)) rfl ⟨trivial, trivial⟩ ?_
      exact pw_ret hT rfl (r := some (pvI (-1))) (M' := M) ⟨rfl, rfl⟩ ⟨⟨_, rfl, (zr_wide (show (-1) ≤ Int32.toInt (-1) ∧ Int32.toInt (-1) ≤ (-1) from (by decide)) (by decide) (by decide)), (by rw [if_neg c6_, if_pos c10_]; first | done | (rw [if_pos c10_]; done))⟩, hok, pvfr_0⟩
    · refine pw_eqI (if_neg c10_) ?_
      have b13_ : 0 ≤ Int32.toInt n1 ∧ Int32.toInt n1 ≤ 5 := zr_nlt_r 5 c10_ b9_ (show 5 ≤ Int32.toInt 5 ∧ Int32.toInt 5 ≤ 5 from (by decide)) (by decide)
      show PW 89 d (5, [some (pvR 124), some (pvI n1), some (pvI n2), some (pvI n3), none], [pvI 1], M) _
      refine pw_ifn hT (c := 1 = 0) rfl rfl (fun c14_ => ?_) (fun c14_ => absurd c14_ (by decide))
      refine pw_blk hT 4 (S' := (14, [some (pvR 124), some (pvI n1), some (pvI n2), some (pvI n3), none], [pvI 4, pvI (-1), pvI n2, pvR 124], M)) rfl ⟨trivial, trivial, trivial, trivial, trivial⟩ ?_
      refine pw_callT hT (as := [pvR 124, pvI n2, pvI (-1), pvI 4]) (lo1 := [some (pvR 124), some (pvI n2), some (pvI (-1)), some (pvI 4)]) (d1 := d) (rest := []) rfl rfl rfl rfl rfl (fun _ => rfl) (Nat.zero_le _) rfl rfl rfl (sf_X10_in_124_x_x_x M hok n2 (-1) 4 d) ?_
      by_cases c20_ : n2 < (-1)
      · refine pw_eqI (if_pos c20_) ?_
        have b21_ : (-2147483648) ≤ Int32.toInt n2 ∧ Int32.toInt n2 ≤ (-2) := zr_lt_l (-2) c20_ (zbnd n2) (show (-1) ≤ Int32.toInt (-1) ∧ Int32.toInt (-1) ≤ (-1) from (by decide)) (by decide)
        show PW 89 d (17, [some (pvR 124), some (pvI n1), some (pvI n2), some (pvI n3), none], [pvI 0], M) _
        refine pw_if hT (c := 0 = 0) rfl rfl (fun c22_ => ?_) (fun c22_ => absurd (by decide) c22_)
        refine pw_blk hT 1 (S' := (32, [some (pvR 124), some (pvI n1), some (pvI n2), some (pvI n3), none], [pvI (-2)], M)) rfl ⟨trivial, trivial⟩ ?_
        exact pw_ret hT rfl (r := some (pvI (-2))) (M' := M) ⟨rfl, rfl⟩ ⟨⟨_, rfl, (zr_wide (show (-2) ≤ Int32.toInt (-2) ∧ Int32.toInt (-2) ≤ (-2) from (by decide)) (by decide) (by decide)), (by rw [if_neg c6_, if_neg c10_, if_pos c20_]; first | done | (rw [if_pos c20_]; done))⟩, hok, pvfr_0⟩
      · refine pw_eqI (if_neg c20_) ?_
        have b23_ : (-1) ≤ Int32.toInt n2 ∧ Int32.toInt n2 ≤ 2147483647 := zr_nlt_l (-1) c20_ (zbnd n2) (show (-1) ≤ Int32.toInt (-1) ∧ Int32.toInt (-1) ≤ (-1) from (by decide)) (by decide)
        by_cases c24_ : 4 < n2
        · refine pw_eqI (if_pos c24_) ?_
          have b25_ : 5 ≤ Int32.toInt n2 ∧ Int32.toInt n2 ≤ 2147483647 := zr_lt_r 5 c24_ b23_ (show 4 ≤ Int32.toInt 4 ∧ Int32.toInt 4 ≤ 4 from (by decide)) (by decide)
          show PW 89 d (17, [some (pvR 124), some (pvI n1), some (pvI n2), some (pvI n3), none], [pvI 0], M) _
          refine pw_if hT (c := 0 = 0) rfl rfl (fun c26_ => ?_) (fun c26_ => absurd (by decide) c26_)
          refine pw_blk hT 1 (S' := (32, [some (pvR 124), some (pvI n1), some (pvI n2), some (pvI n3), none], [pvI (-2)], M)) rfl ⟨trivial, trivial⟩ ?_
          exact pw_ret hT rfl (r := some (pvI (-2))) (M' := M) ⟨rfl, rfl⟩ ⟨⟨_, rfl, (zr_wide (show (-2) ≤ Int32.toInt (-2) ∧ Int32.toInt (-2) ≤ (-2) from (by decide)) (by decide) (by decide)), (by rw [if_neg c6_, if_neg c10_, if_neg c20_, if_pos c24_]; first | done | (rw [if_pos c24_]; done))⟩, hok, pvfr_0⟩
        · refine pw_eqI (if_neg c24_) ?_
          have b27_ : (-1) ≤ Int32.toInt n2 ∧ Int32.toInt n2 ≤ 4 := zr_nlt_r 4 c24_ b23_ (show 4 ≤ Int32.toInt 4 ∧ Int32.toInt 4 ≤ 4 from (by decide)) (by decide)
          show PW 89 d (17, [some (pvR 124), some (pvI n1), some (pvI n2), some (pvI n3), none], [pvI 1], M) _
          refine pw_if hT (c := 1 = 0) rfl rfl (fun c28_ => absurd c28_ (by decide)) (fun c28_ => ?_)
          refine pw_blk hT 1 (S' := (21, [some (pvR 124), some (pvI n1), some (pvI n2), some (pvI n3), none], [pvI n2], M)) rfl ⟨trivial, trivial⟩ ?_
          refine pw_if hT (c := n2 < 0) rfl rfl (fun c29_ => ?_) (fun c29_ => ?_)
          · have b30_ : (-1) ≤ Int32.toInt n2 ∧ Int32.toInt n2 ≤ (-1) := zr_lt_l (-1) c29_ b27_ (show 0 ≤ Int32.toInt 0 ∧ Int32.toInt 0 ≤ 0 from (by decide)) (by decide)
            refine pw_blk hT 1 (S' := (34, [some (pvR 124), some (pvI n1), some (pvI n2), some (pvI n3), none], [pvI n2], M)) rfl ⟨trivial, trivial⟩ ?_
            refine pw_if hT (c := n2 < 0) rfl rfl (fun c31_ => ?_) (fun c31_ => absurd c29_ c31_)
            refine pw_blkw hT 5 (pc := 51) (lo := [some (pvR 124), some (pvI n1), some (pvI n2), some (pvI n3), none]) (st := []) (M := pvu M 164 (Int32.toNatClampNeg n1) n2) rfl ⟨trivial, rfl, trivial, trivial, ⟨rfl, (zr_in (n := 6) b13_ (by decide) (by decide))⟩, trivial⟩ (fun M32_ e33_ => ?_)
            have o34_ : pvOk M32_ := pvok_u2 e33_ hok rfl (zr_wide b30_ (by decide) (by decide))
            have f35_ : pvFr fp_eX10_tape_124_x_x_x M M32_ := pvfr_u e33_ pvfr_0 rfl
            refine pw_blk hT 4 (S' := (57, [some (pvR 124), some (pvI n1), some (pvI n2), some (pvI n3), none], [pvI n2, pvI n1, pvR 165], M32_)) rfl ⟨trivial, rfl, trivial, trivial, trivial⟩ ?_
            refine pw_if hT (c := 0 ≤ n2) rfl rfl (fun c36_ => absurd c36_ (by have z0 := (show 0 ≤ Int32.toInt 0 ∧ Int32.toInt 0 ≤ 0 from (by decide)); have z1 := b30_; rw [zi_le]; omega)) (fun c36_ => ?_)
            refine pw_blkw hT 3 (pc := 66) (lo := [some (pvR 124), some (pvI n1), some (pvI n2), some (pvI n3), none]) (st := []) (M := pvu M32_ 165 (Int32.toNatClampNeg n1) 0) rfl ⟨trivial, trivial, ⟨rfl, (zr_in (n := 6) b13_ (by decide) (by decide))⟩, trivial⟩ (fun M37_ e38_ => ?_)
            have o39_ : pvOk M37_ := pvok_u2 e38_ o34_ rfl (zr_wide (show 0 ≤ Int32.toInt 0 ∧ Int32.toInt 0 ≤ 0 from (by decide)) (by decide) (by decide))
            have f40_ : pvFr fp_eX10_tape_124_x_x_x M M37_ := pvfr_u e38_ f35_ rfl
            refine pw_blk hT 2 (S' := (69, [some (pvR 124), some (pvI n1), some (pvI n2), some (pvI n3), some (pvI 0)], [], M37_)) rfl ⟨trivial, trivial, trivial⟩ ?_
            have hlz95_ : ∀ (nz95_ : Nat) (i4z95_ : Int32) (Mz95_ : pvM), (pvOk Mz95_) → (pvFr fp_eX10_tape_124_x_x_x M Mz95_) → (0 ≤ Int32.toInt i4z95_ ∧ Int32.toInt i4z95_ ≤ 60) → (zhide ((61 - Int32.toInt i4z95_).toNat < nz95_)) → PW 89 d (69, [some (pvR 124), some (pvI n1), some (pvI n2), some (pvI n3), some (pvI i4z95_)], [], Mz95_) (fun r X => (∃ x : Int32, r = some (pvI x) ∧ ((-14) ≤ Int32.toInt x ∧ Int32.toInt x ≤ 1) ∧ x = (if n1 < 0 then (-1) else (if 5 < n1 then (-1) else (if n2 < (-1) then (-2) else (if 4 < n2 then (-2) else (if n2 < 0 then 1 else (if n3 ≤ 60 then (if 0 ≤ n3 then 1 else (-14)) else (-2)))))))) ∧ pvOk X ∧ pvFr fp_eX10_tape_124_x_x_x M X) := by
              intro nz95_
              induction nz95_ with
              | zero => intro i4z95_ Mz95_ oz95_ fz95_ h4z95_ hmz95_; exact absurd (zshow hmz95_) (Nat.not_lt_zero _)
              | succ nz95_ ihz95_ =>
                intro i4z95_ Mz95_ oz95_ fz95_ h4z95_ hmz95_
                refine pw_blk hT 2 (S' := (73, [some (pvR 124), some (pvI n1), some (pvI n2), some (pvI n3), some (pvI i4z95_)], [pvI 60, pvI i4z95_], Mz95_)) rfl ⟨trivial, trivial, trivial⟩ ?_
                refine pw_ic hT (c := 60 ≤ i4z95_) rfl rfl (fun c96_ => ?_) (fun c96_ => ?_)
                · have b97_ : 60 ≤ Int32.toInt i4z95_ ∧ Int32.toInt i4z95_ ≤ 60 := zr_le_r 60 c96_ h4z95_ (show 60 ≤ Int32.toInt 60 ∧ Int32.toInt 60 ≤ 60 from (by decide)) (by decide)
                  refine pw_blk hT 1 (S' := (96, [some (pvR 124), some (pvI n1), some (pvI n2), some (pvI n3), some (pvI i4z95_)], [pvI 1], Mz95_)) rfl ⟨trivial, trivial⟩ ?_
                  exact pw_ret hT rfl (r := some (pvI 1)) (M' := Mz95_) ⟨rfl, rfl⟩ ⟨⟨_, rfl, (zr_wide (show 1 ≤ Int32.toInt 1 ∧ Int32.toInt 1 ≤ 1 from (by decide)) (by decide) (by decide)), (by rw [if_neg c6_, if_neg c10_, if_neg c20_, if_neg c24_, if_pos c29_]; first | done | (rw [if_pos c29_]; done))⟩, oz95_, fz95_⟩
                · have b98_ : 0 ≤ Int32.toInt i4z95_ ∧ Int32.toInt i4z95_ ≤ 59 := zr_nle_r 59 c96_ h4z95_ (show 60 ≤ Int32.toInt 60 ∧ Int32.toInt 60 ≤ 60 from (by decide)) (by decide)
                  have q99_ : Int32.toInt (60 * n1) = 60 * Int32.toInt n1 := by have u0 : Int32.toInt 60 = 60 := (by decide); have u1 := b13_; have u2 := zmul 60 n1 (by rw [u0]; omega) (by rw [u0]; omega); rw [u0] at u2; omega
                  have b100_ : 0 ≤ Int32.toInt (60 * n1) ∧ Int32.toInt (60 * n1) ≤ 300 := (by have u1 := b13_; omega)
                  obtain ⟨q102_, b101_⟩ : (Int32.toInt ((60 * n1) + i4z95_) = Int32.toInt (60 * n1) + Int32.toInt i4z95_) ∧ (0 ≤ Int32.toInt ((60 * n1) + i4z95_) ∧ Int32.toInt ((60 * n1) + i4z95_) ≤ 359) := zadd_r (60 * n1) i4z95_ 0 359 b100_ b98_ (by decide) (by decide) (by decide) (by decide)
                  refine pw_blkw hT 9 (pc := 89) (lo := [some (pvR 124), some (pvI n1), some (pvI n2), some (pvI n3), some (pvI i4z95_)]) (st := []) (M := pvw Mz95_ 166 (Int32.toNatClampNeg ((60 * n1) + i4z95_)) 0) rfl ⟨trivial, rfl, trivial, trivial, trivial, trivial, trivial, trivial, ⟨rfl, (zr_in (n := 360) b101_ (by decide) (by decide))⟩, trivial⟩ (fun M103_ e104_ => ?_)
                  have o105_ : pvOk M103_ := pvok_w e104_ oz95_
                  have f106_ : pvFr fp_eX10_tape_124_x_x_x M M103_ := pvfr_w e104_ fz95_
                  obtain ⟨q108_, b107_⟩ : (Int32.toInt (i4z95_ + 1) = Int32.toInt i4z95_ + 1) ∧ (1 ≤ Int32.toInt (i4z95_ + 1) ∧ Int32.toInt (i4z95_ + 1) ≤ 60) := zadd_k i4z95_ 1 1 1 60 b98_ (by decide) (by decide) (by decide) (by decide) (by decide)
                  refine pw_blk hT 2 (S' := (69, [some (pvR 124), some (pvI n1), some (pvI n2), some (pvI n3), some (pvI (i4z95_ + 1))], [], M103_)) rfl ⟨trivial, trivial, trivial⟩ ?_
                  exact ihz95_ (i4z95_ + 1) M103_ o105_ f106_ (zr_wide b107_ (by decide) (by decide)) (zhid (pvms_up (zshow hmz95_) h4z95_ q108_ (by decide) (by decide)))
            exact hlz95_ _ 0 M37_ o39_ f40_ (zr_wide (show 0 ≤ Int32.toInt 0 ∧ Int32.toInt 0 ≤ 0 from (by decide)) (by decide) (by decide)) (zhid (Nat.lt_succ_self _))
          · have b109_ : 0 ≤ Int32.toInt n2 ∧ Int32.toInt n2 ≤ 4 := zr_nlt_l 0 c29_ b27_ (show 0 ≤ Int32.toInt 0 ∧ Int32.toInt 0 ≤ 0 from (by decide)) (by decide)
            refine pw_blk hT 2 (S' := (27, [some (pvR 124), some (pvI n1), some (pvI n2), some (pvI n3), none], [pvI 60, pvI n3], M)) rfl ⟨trivial, trivial, trivial⟩ ?_
            refine pw_ic hT (c := n3 ≤ 60) rfl rfl (fun c110_ => ?_) (fun c110_ => ?_)
            · have b111_ : (-2147483648) ≤ Int32.toInt n3 ∧ Int32.toInt n3 ≤ 60 := zr_le_l 60 c110_ (zbnd n3) (show 60 ≤ Int32.toInt 60 ∧ Int32.toInt 60 ≤ 60 from (by decide)) (by decide)
              refine pw_blk hT 1 (S' := (34, [some (pvR 124), some (pvI n1), some (pvI n2), some (pvI n3), none], [pvI n2], M)) rfl ⟨trivial, trivial⟩ ?_
              refine pw_if hT (c := n2 < 0) rfl rfl (fun c112_ => absurd c112_ c29_) (fun c112_ => ?_)
              refine pw_blk hT 1 (S' := (38, [some (pvR 124), some (pvI n1), some (pvI n2), some (pvI n3), none], [pvI n3], M)) rfl ⟨trivial, trivial⟩ ?_
              refine pw_if hT (c := 0 ≤ n3) rfl rfl (fun c113_ => ?_) (fun c113_ => ?_)
              · have b114_ : 0 ≤ Int32.toInt n3 ∧ Int32.toInt n3 ≤ 60 := zr_le_r 0 c113_ b111_ (show 0 ≤ Int32.toInt 0 ∧ Int32.toInt 0 ≤ 0 from (by decide)) (by decide)
                refine pw_blkw hT 5 (pc := 51) (lo := [some (pvR 124), some (pvI n1), some (pvI n2), some (pvI n3), none]) (st := []) (M := pvu M 164 (Int32.toNatClampNeg n1) n2) rfl ⟨trivial, rfl, trivial, trivial, ⟨rfl, (zr_in (n := 6) b13_ (by decide) (by decide))⟩, trivial⟩ (fun M115_ e116_ => ?_)
                have o117_ : pvOk M115_ := pvok_u2 e116_ hok rfl (zr_wide b109_ (by decide) (by decide))
                have f118_ : pvFr fp_eX10_tape_124_x_x_x M M115_ := pvfr_u e116_ pvfr_0 rfl
                refine pw_blk hT 4 (S' := (57, [some (pvR 124), some (pvI n1), some (pvI n2), some (pvI n3), none], [pvI n2, pvI n1, pvR 165], M115_)) rfl ⟨trivial, rfl, trivial, trivial, trivial⟩ ?_
                refine pw_if hT (c := 0 ≤ n2) rfl rfl (fun c119_ => ?_) (fun c119_ => absurd (by have z0 := (show 0 ≤ Int32.toInt 0 ∧ Int32.toInt 0 ≤ 0 from (by decide)); have z1 := b109_; rw [zi_le]; omega) c119_)
                refine pw_blkw hT 2 (pc := 66) (lo := [some (pvR 124), some (pvI n1), some (pvI n2), some (pvI n3), none]) (st := []) (M := pvu M115_ 165 (Int32.toNatClampNeg n1) n3) rfl ⟨trivial, ⟨rfl, (zr_in (n := 6) b13_ (by decide) (by decide))⟩, trivial⟩ (fun M120_ e121_ => ?_)
                have o122_ : pvOk M120_ := pvok_u2 e121_ o117_ rfl b114_
                have f123_ : pvFr fp_eX10_tape_124_x_x_x M M120_ := pvfr_u e121_ f118_ rfl
                refine pw_blk hT 2 (S' := (69, [some (pvR 124), some (pvI n1), some (pvI n2), some (pvI n3), some (pvI 0)], [], M120_)) rfl ⟨trivial, trivial, trivial⟩ ?_
                have hlz178_ : ∀ (nz178_ : Nat) (i4z178_ : Int32) (Mz178_ : pvM), (pvOk Mz178_) → (pvFr fp_eX10_tape_124_x_x_x M Mz178_) → (0 ≤ Int32.toInt i4z178_ ∧ Int32.toInt i4z178_ ≤ 60) → (zhide ((61 - Int32.toInt i4z178_).toNat < nz178_)) → PW 89 d (69, [some (pvR 124), some (pvI n1), some (pvI n2), some (pvI n3), some (pvI i4z178_)], [], Mz178_) (fun r X => (∃ x : Int32, r = some (pvI x) ∧ ((-14) ≤ Int32.toInt x ∧ Int32.toInt x ≤ 1) ∧ x = (if n1 < 0 then (-1) else (if 5 < n1 then (-1) else (if n2 < (-1) then (-2) else (if 4 < n2 then (-2) else (if n2 < 0 then 1 else (if n3 ≤ 60 then (if 0 ≤ n3 then 1 else (-14)) else (-2)))))))) ∧ pvOk X ∧ pvFr fp_eX10_tape_124_x_x_x M X) := by
                  intro nz178_
                  induction nz178_ with
                  | zero => intro i4z178_ Mz178_ oz178_ fz178_ h4z178_ hmz178_; exact absurd (zshow hmz178_) (Nat.not_lt_zero _)
                  | succ nz178_ ihz178_ =>
                    intro i4z178_ Mz178_ oz178_ fz178_ h4z178_ hmz178_
                    refine pw_blk hT 2 (S' := (73, [some (pvR 124), some (pvI n1), some (pvI n2), some (pvI n3), some (pvI i4z178_)], [pvI 60, pvI i4z178_], Mz178_)) rfl ⟨trivial, trivial, trivial⟩ ?_
                    refine pw_ic hT (c := 60 ≤ i4z178_) rfl rfl (fun c179_ => ?_) (fun c179_ => ?_)
                    · have b180_ : 60 ≤ Int32.toInt i4z178_ ∧ Int32.toInt i4z178_ ≤ 60 := zr_le_r 60 c179_ h4z178_ (show 60 ≤ Int32.toInt 60 ∧ Int32.toInt 60 ≤ 60 from (by decide)) (by decide)
                      refine pw_blk hT 1 (S' := (96, [some (pvR 124), some (pvI n1), some (pvI n2), some (pvI n3), some (pvI i4z178_)], [pvI 1], Mz178_)) rfl ⟨trivial, trivial⟩ ?_
                      exact pw_ret hT rfl (r := some (pvI 1)) (M' := Mz178_) ⟨rfl, rfl⟩ ⟨⟨_, rfl, (zr_wide (show 1 ≤ Int32.toInt 1 ∧ Int32.toInt 1 ≤ 1 from (by decide)) (by decide) (by decide)), (by rw [if_neg c6_, if_neg c10_, if_neg c20_, if_neg c24_, if_neg c29_, if_pos c110_, if_pos c113_]; first | done | (rw [if_pos c113_]; done))⟩, oz178_, fz178_⟩
                    · have b181_ : 0 ≤ Int32.toInt i4z178_ ∧ Int32.toInt i4z178_ ≤ 59 := zr_nle_r 59 c179_ h4z178_ (show 60 ≤ Int32.toInt 60 ∧ Int32.toInt 60 ≤ 60 from (by decide)) (by decide)
                      have q182_ : Int32.toInt (60 * n1) = 60 * Int32.toInt n1 := by have u0 : Int32.toInt 60 = 60 := (by decide); have u1 := b13_; have u2 := zmul 60 n1 (by rw [u0]; omega) (by rw [u0]; omega); rw [u0] at u2; omega
                      have b183_ : 0 ≤ Int32.toInt (60 * n1) ∧ Int32.toInt (60 * n1) ≤ 300 := (by have u1 := b13_; omega)
                      obtain ⟨q185_, b184_⟩ : (Int32.toInt ((60 * n1) + i4z178_) = Int32.toInt (60 * n1) + Int32.toInt i4z178_) ∧ (0 ≤ Int32.toInt ((60 * n1) + i4z178_) ∧ Int32.toInt ((60 * n1) + i4z178_) ≤ 359) := zadd_r (60 * n1) i4z178_ 0 359 b183_ b181_ (by decide) (by decide) (by decide) (by decide)
                      refine pw_blkw hT 9 (pc := 89) (lo := [some (pvR 124), some (pvI n1), some (pvI n2), some (pvI n3), some (pvI i4z178_)]) (st := []) (M := pvw Mz178_ 166 (Int32.toNatClampNeg ((60 * n1) + i4z178_)) 0) rfl ⟨trivial, rfl, trivial, trivial, trivial, trivial, trivial, trivial, ⟨rfl, (zr_in (n := 360) b184_ (by decide) (by decide))⟩, trivial⟩ (fun M186_ e187_ => ?_)
                      have o188_ : pvOk M186_ := pvok_w e187_ oz178_
                      have f189_ : pvFr fp_eX10_tape_124_x_x_x M M186_ := pvfr_w e187_ fz178_
                      obtain ⟨q191_, b190_⟩ : (Int32.toInt (i4z178_ + 1) = Int32.toInt i4z178_ + 1) ∧ (1 ≤ Int32.toInt (i4z178_ + 1) ∧ Int32.toInt (i4z178_ + 1) ≤ 60) := zadd_k i4z178_ 1 1 1 60 b181_ (by decide) (by decide) (by decide) (by decide) (by decide)
                      refine pw_blk hT 2 (S' := (69, [some (pvR 124), some (pvI n1), some (pvI n2), some (pvI n3), some (pvI (i4z178_ + 1))], [], M186_)) rfl ⟨trivial, trivial, trivial⟩ ?_
                      exact ihz178_ (i4z178_ + 1) M186_ o188_ f189_ (zr_wide b190_ (by decide) (by decide)) (zhid (pvms_up (zshow hmz178_) h4z178_ q191_ (by decide) (by decide)))
                exact hlz178_ _ 0 M120_ o122_ f123_ (zr_wide (show 0 ≤ Int32.toInt 0 ∧ Int32.toInt 0 ≤ 0 from (by decide)) (by decide) (by decide)) (zhid (Nat.lt_succ_self _))
              · have b192_ : (-2147483648) ≤ Int32.toInt n3 ∧ Int32.toInt n3 ≤ (-1) := zr_nle_r (-1) c113_ b111_ (show 0 ≤ Int32.toInt 0 ∧ Int32.toInt 0 ≤ 0 from (by decide)) (by decide)
                refine pw_blk hT 1 (S' := (43, [some (pvR 124), some (pvI n1), some (pvI n2), some (pvI n3), none], [pvI (-14)], M)) rfl ⟨trivial, trivial⟩ ?_
                exact pw_ret hT rfl (r := some (pvI (-14))) (M' := M) ⟨rfl, rfl⟩ ⟨⟨_, rfl, (zr_wide (show (-14) ≤ Int32.toInt (-14) ∧ Int32.toInt (-14) ≤ (-14) from (by decide)) (by decide) (by decide)), (by rw [if_neg c6_, if_neg c10_, if_neg c20_, if_neg c24_, if_neg c29_, if_pos c110_, if_neg c113_]; first | done | (rw [if_neg c113_]; done))⟩, hok, pvfr_0⟩
            · have b193_ : 61 ≤ Int32.toInt n3 ∧ Int32.toInt n3 ≤ 2147483647 := zr_nle_l 61 c110_ (zbnd n3) (show 60 ≤ Int32.toInt 60 ∧ Int32.toInt 60 ≤ 60 from (by decide)) (by decide)
              refine pw_blk hT 1 (S' := (32, [some (pvR 124), some (pvI n1), some (pvI n2), some (pvI n3), none], [pvI (-2)], M)) rfl ⟨trivial, trivial⟩ ?_
              exact pw_ret hT rfl (r := some (pvI (-2))) (M' := M) ⟨rfl, rfl⟩ ⟨⟨_, rfl, (zr_wide (show (-2) ≤ Int32.toInt (-2) ∧ Int32.toInt (-2) ≤ (-2) from (by decide)) (by decide) (by decide)), (by rw [if_neg c6_, if_neg c10_, if_neg c20_, if_neg c24_, if_neg c29_, if_neg c110_]; first | done | (rw [if_neg c110_]; done))⟩, hok, pvfr_0⟩
set_option maxHeartbeats 4000000 in
set_option maxRecDepth 10000 in
theorem se_X10_trace_124_x (M : pvM) (hok : pvOk M) (n1 : Int32) (d : Nat) : PW 92 d (0, [some (pvR 124), some (pvI n1)], [], M) (fun r X => r = some (pvI ((if n1 < 0 then (-1) else (if 19 < n1 then (-1) else (if (M.1 124 70) ≤ n1 then (-1) else (M.1 163 (Int32.toNatClampNeg n1))))))) ∧ X = M) := by
  have hT : pvdom 92 = pvD_92 := rfl
  refine pw_blk hT 4 (S' := (5, [some (pvR 124), some (pvI n1)], [pvI 19, pvI 0, pvI n1, pvR 124], M)) rfl ⟨trivial, trivial, trivial, trivial, trivial⟩ ?_
  refine pw_callT hT (as := [pvR 124, pvI n1, pvI 0, pvI 19]) (lo1 := [some (pvR 124), some (pvI n1), some (pvI 0), some (pvI 19)]) (d1 := d) (rest := []) rfl rfl rfl rfl rfl (fun _ => rfl) (Nat.zero_le _) rfl rfl rfl (sf_X10_in_124_x_x_x M hok n1 0 19 d) ?_
  by_cases c6_ : n1 < 0
  · refine pw_eqI (if_pos c6_) ?_
    have b7_ : (-2147483648) ≤ Int32.toInt n1 ∧ Int32.toInt n1 ≤ (-1) := zr_lt_l (-1) c6_ (zbnd n1) (show 0 ≤ Int32.toInt 0 ∧ Int32.toInt 0 ≤ 0 from (by decide)) (by decide)
    show PW 92 d (8, [some (pvR 124), some (pvI n1)], [pvI 0], M) _
    refine pw_if hT (c := 0 = 0) rfl rfl (fun c8_ => ?_) (fun c8_ => absurd (by decide) c8_)
    refine pw_blk hT 1 (S' := (29, [some (pvR 124), some (pvI n1)], [pvI (-1)], M)) rfl ⟨trivial, trivial⟩ ?_
    exact pw_ret hT rfl (r := some (pvI (-1))) (M' := M) ⟨rfl, rfl⟩ ⟨(by rw [if_pos c6_]; first | done | (rw [if_pos c6_]; done)), rfl⟩
  · refine pw_eqI (if_neg c6_) ?_
    have b9_ : 0 ≤ Int32.toInt n1 ∧ Int32.toInt n1 ≤ 2147483647 := zr_nlt_l 0 c6_ (zbnd n1) (show 0 ≤ Int32.toInt 0 ∧ Int32.toInt 0 ≤ 0 from (by decide)) (by decide)
    by_cases c10_ : 19 < n1
    · refine pw_eqI (if_pos c10_) ?_
      have b11_ : 20 ≤ Int32.toInt n1 ∧ Int32.toInt n1 ≤ 2147483647 := zr_lt_r 20 c10_ b9_ (show 19 ≤ Int32.toInt 19 ∧ Int32.toInt 19 ≤ 19 from (by decide)) (by decide)
      show PW 92 d (8, [some (pvR 124), some (pvI n1)], [pvI 0], M) _
      refine pw_if hT (c := 0 = 0) rfl rfl (fun c12_ => ?_) (fun c12_ => absurd (by decide) c12_)
      refine pw_blk hT 1 (S' := (29, [some (pvR 124), some (pvI n1)], [pvI (-1)], M)) rfl ⟨trivial, trivial⟩ ?_
      exact pw_ret hT rfl (r := some (pvI (-1))) (M' := M) ⟨rfl, rfl⟩ ⟨(by rw [if_neg c6_, if_pos c10_]; first | done | (rw [if_pos c10_]; done)), rfl⟩
    · refine pw_eqI (if_neg c10_) ?_
      have b13_ : 0 ≤ Int32.toInt n1 ∧ Int32.toInt n1 ≤ 19 := zr_nlt_r 19 c10_ b9_ (show 19 ≤ Int32.toInt 19 ∧ Int32.toInt 19 ≤ 19 from (by decide)) (by decide)
      show PW 92 d (8, [some (pvR 124), some (pvI n1)], [pvI 1], M) _
      refine pw_if hT (c := 1 = 0) rfl rfl (fun c14_ => absurd c14_ (by decide)) (fun c14_ => ?_)
      have b15_ : 0 ≤ Int32.toInt (M.1 124 70) ∧ Int32.toInt (M.1 124 70) ≤ 1000000 := pvok_r hok 124 70 rfl
      refine pw_blk hT 3 (S' := (16, [some (pvR 124), some (pvI n1)], [pvI (M.1 124 70), pvI n1], M)) rfl ⟨trivial, trivial, rfl, trivial⟩ ?_
      refine pw_ic hT (c := (M.1 124 70) ≤ n1) rfl rfl (fun c16_ => ?_) (fun c16_ => ?_)
      · have b17_ : 0 ≤ Int32.toInt (M.1 124 70) ∧ Int32.toInt (M.1 124 70) ≤ 19 := zr_le_l 19 c16_ b15_ b13_ (by decide)
        have d18_ : Int32.toInt (M.1 124 70) ≤ Int32.toInt n1 := (zi_le _ _).mp c16_
        refine pw_blk hT 1 (S' := (29, [some (pvR 124), some (pvI n1)], [pvI (-1)], M)) rfl ⟨trivial, trivial⟩ ?_
        exact pw_ret hT rfl (r := some (pvI (-1))) (M' := M) ⟨rfl, rfl⟩ ⟨(by rw [if_neg c6_, if_neg c10_, if_pos c16_]; first | done | (rw [if_pos c16_]; done)), rfl⟩
      · have b19_ : 1 ≤ Int32.toInt (M.1 124 70) ∧ Int32.toInt (M.1 124 70) ≤ 1000000 := zr_nle_l 1 c16_ b15_ b13_ (by decide)
        have d20_ : Int32.toInt (M.1 124 70) > Int32.toInt n1 := Int.not_le.mp ((not_congr (zi_le _ _)).mp c16_)
        refine pw_blk hT 5 (S' := (29, [some (pvR 124), some (pvI n1)], [pvI (M.1 163 (Int32.toNatClampNeg n1))], M)) rfl ⟨trivial, rfl, trivial, ⟨rfl, (zr_in (n := 20) b13_ (by decide) (by decide))⟩, trivial, trivial⟩ ?_
        exact pw_ret hT rfl (r := some (pvI (M.1 163 (Int32.toNatClampNeg n1)))) (M' := M) ⟨rfl, rfl⟩ ⟨(by rw [if_neg c6_, if_neg c10_, if_neg c16_]; first | done | (rw [if_neg c16_]; done)), rfl⟩
def fpL_eX10_undo_124 : List (Nat × Nat × Nat) := [(0, 124, 1), (0, 124, 2), (0, 124, 16), (0, 124, 3), (0, 124, 4), (0, 124, 38), (0, 124, 5), (0, 124, 41), (0, 124, 44), (0, 124, 6), (0, 124, 7), (0, 125, 0), (0, 126, 0), (0, 127, 0), (0, 128, 0), (0, 129, 0), (0, 130, 0), (0, 131, 0), (0, 145, 0), (0, 147, 0), (0, 148, 0), (0, 149, 0), (0, 150, 0)]
def fp_eX10_undo_124 (q k : Nat) : Bool := pvfp fpL_eX10_undo_124 q k
set_option maxHeartbeats 4000000 in
set_option maxRecDepth 10000 in
theorem se_X10_undo_124 (M : pvM) (hok : pvOk M) (d : Nat) : PW 94 d (0, [some (pvR 124), none], [], M) (fun r X => (∃ x : Int32, r = some (pvI x) ∧ ((-3) ≤ Int32.toInt x ∧ Int32.toInt x ≤ 7) ∧ x = (if (M.1 124 46) = 0 then (-3) else (M.1 124 48))) ∧ pvOk X ∧ pvFr fp_eX10_undo_124 M X ∧ ((pvWF M → pvWF X) ∧ (Int32.toInt (M.1 124 51) ≤ 99 → Int32.toInt (M.1 124 3) ≤ 99 → Int32.toInt (X.1 124 3) ≤ 99)) ∧ zU10 M X ∧ zU1 124 46 145 157 7 M X ∧ zU1 124 46 147 158 6 M X ∧ zU1 124 46 148 159 6 M X ∧ zU1 124 46 149 160 8 M X ∧ zU1 124 46 150 161 8 M X ∧ X.1 124 0 = (if (M.1 124 46) = 0 then (M.1 124 0) else (M.1 124 48)) ∧ X.1 124 3 = (if (M.1 124 46) = 0 then (M.1 124 3) else (M.1 124 51)) ∧ X.1 124 4 = (if (M.1 124 46) = 0 then (M.1 124 4) else (M.1 124 52)) ∧ X.1 124 40 = (if (M.1 124 46) = 0 then (M.1 124 40) else (M.1 124 56)) ∧ X.1 124 43 = (if (M.1 124 46) = 0 then (M.1 124 43) else (M.1 124 57)) ∧ X.1 124 37 = (if (M.1 124 46) = 0 then (M.1 124 37) else (M.1 124 55))) := by
  have hT : pvdom 94 = pvD_94 := rfl
  have b1_ : 0 ≤ Int32.toInt (M.1 124 46) ∧ Int32.toInt (M.1 124 46) ≤ 1 := pvok_r hok 124 46 rfl
  refine pw_blk hT 2 (S' := (4, [some (pvR 124), none], [pvI (M.1 124 46)], M)) rfl ⟨trivial, rfl, trivial⟩ ?_
  refine pw_ifn hT (c := (M.1 124 46) = 0) rfl rfl (fun c2_ => ?_) (fun c2_ => ?_)
  · have b3_ : 1 ≤ Int32.toInt (M.1 124 46) ∧ Int32.toInt (M.1 124 46) ≤ 1 := (by have u0 := b1_; have u1 := (not_congr (zi_eq _ _)).mp c2_; have u2 := (show 0 ≤ Int32.toInt 0 ∧ Int32.toInt 0 ≤ 0 from (by decide)); omega)
    have b4_ : (-1) ≤ Int32.toInt (M.1 124 47) ∧ Int32.toInt (M.1 124 47) ≤ 5 := pvok_r hok 124 47 rfl
    refine pw_blkw hT 4 (pc := 18) (lo := [some (pvR 124), none]) (st := []) (M := pvu M 124 15 (M.1 124 47)) rfl ⟨trivial, trivial, rfl, rfl, trivial⟩ (fun M5_ e6_ => ?_)
    have o7_ : pvOk M5_ := pvok_u2 e6_ hok rfl b4_
    have f8_ : pvFr fp_eX10_undo_124 M M5_ := pvfr_u e6_ pvfr_0 rfl
    have b9_ : 0 ≤ Int32.toInt (M5_.1 124 48) ∧ Int32.toInt (M5_.1 124 48) ≤ 7 := pvok_r o7_ 124 48 rfl
    refine pw_blkw hT 4 (pc := 26) (lo := [some (pvR 124), none]) (st := []) (M := pvu M5_ 124 0 (M5_.1 124 48)) rfl ⟨trivial, trivial, rfl, rfl, trivial⟩ (fun M10_ e11_ => ?_)
    have o12_ : pvOk M10_ := pvok_u2 e11_ o7_ rfl b9_
    have f13_ : pvFr fp_eX10_undo_124 M M10_ := pvfr_u e11_ f8_ rfl
    have b14_ : 0 ≤ Int32.toInt (M10_.1 124 49) ∧ Int32.toInt (M10_.1 124 49) ≤ 9999 := pvok_r o12_ 124 49 rfl
    refine pw_blkw hT 4 (pc := 34) (lo := [some (pvR 124), none]) (st := []) (M := pvu M10_ 124 1 (M10_.1 124 49)) rfl ⟨trivial, trivial, rfl, rfl, trivial⟩ (fun M15_ e16_ => ?_)
    have o17_ : pvOk M15_ := pvok_u2 e16_ o12_ rfl b14_
    have f18_ : pvFr fp_eX10_undo_124 M M15_ := pvfr_u e16_ f13_ rfl
    have b19_ : 0 ≤ Int32.toInt (M15_.1 124 50) ∧ Int32.toInt (M15_.1 124 50) ≤ 999999 := pvok_r o17_ 124 50 rfl
    refine pw_blkw hT 4 (pc := 42) (lo := [some (pvR 124), none]) (st := []) (M := pvu M15_ 124 2 (M15_.1 124 50)) rfl ⟨trivial, trivial, rfl, rfl, trivial⟩ (fun M20_ e21_ => ?_)
    have o22_ : pvOk M20_ := pvok_u2 e21_ o17_ rfl b19_
    have f23_ : pvFr fp_eX10_undo_124 M M20_ := pvfr_u e21_ f18_ rfl
    have b24_ : 0 ≤ Int32.toInt (M20_.1 124 51) ∧ Int32.toInt (M20_.1 124 51) ≤ 108 := pvok_r o22_ 124 51 rfl
    refine pw_blkw hT 4 (pc := 50) (lo := [some (pvR 124), none]) (st := []) (M := pvu M20_ 124 3 (M20_.1 124 51)) rfl ⟨trivial, trivial, rfl, rfl, trivial⟩ (fun M25_ e26_ => ?_)
    have o27_ : pvOk M25_ := pvok_u2 e26_ o22_ rfl b24_
    have f28_ : pvFr fp_eX10_undo_124 M M25_ := pvfr_u e26_ f23_ rfl
    have b29_ : 0 ≤ Int32.toInt (M25_.1 124 52) ∧ Int32.toInt (M25_.1 124 52) ≤ 4 := pvok_r o27_ 124 52 rfl
    refine pw_blkw hT 4 (pc := 58) (lo := [some (pvR 124), none]) (st := []) (M := pvu M25_ 124 4 (M25_.1 124 52)) rfl ⟨trivial, trivial, rfl, rfl, trivial⟩ (fun M30_ e31_ => ?_)
    have o32_ : pvOk M30_ := pvok_u2 e31_ o27_ rfl b29_
    have f33_ : pvFr fp_eX10_undo_124 M M30_ := pvfr_u e31_ f28_ rfl
    have b34_ : 0 ≤ Int32.toInt (M30_.1 124 53) ∧ Int32.toInt (M30_.1 124 53) ≤ 3 := pvok_r o32_ 124 53 rfl
    refine pw_blkw hT 4 (pc := 66) (lo := [some (pvR 124), none]) (st := []) (M := pvu M30_ 124 5 (M30_.1 124 53)) rfl ⟨trivial, trivial, rfl, rfl, trivial⟩ (fun M35_ e36_ => ?_)
    have o37_ : pvOk M35_ := pvok_u2 e36_ o32_ rfl b34_
    have f38_ : pvFr fp_eX10_undo_124 M M35_ := pvfr_u e36_ f33_ rfl
    have b39_ : 0 ≤ Int32.toInt (M35_.1 124 54) ∧ Int32.toInt (M35_.1 124 54) ≤ 4 := pvok_r o37_ 124 54 rfl
    refine pw_blkw hT 4 (pc := 74) (lo := [some (pvR 124), none]) (st := []) (M := pvu M35_ 124 6 (M35_.1 124 54)) rfl ⟨trivial, trivial, rfl, rfl, trivial⟩ (fun M40_ e41_ => ?_)
    have o42_ : pvOk M40_ := pvok_u2 e41_ o37_ rfl b39_
    have f43_ : pvFr fp_eX10_undo_124 M M40_ := pvfr_u e41_ f38_ rfl
    have b44_ : 0 ≤ Int32.toInt (M40_.1 124 55) ∧ Int32.toInt (M40_.1 124 55) ≤ 7 := pvok_r o42_ 124 55 rfl
    refine pw_blkw hT 4 (pc := 82) (lo := [some (pvR 124), none]) (st := []) (M := pvu M40_ 124 37 (M40_.1 124 55)) rfl ⟨trivial, trivial, rfl, rfl, trivial⟩ (fun M45_ e46_ => ?_)
    have o47_ : pvOk M45_ := pvok_u2 e46_ o42_ rfl b44_
    have f48_ : pvFr fp_eX10_undo_124 M M45_ := pvfr_u e46_ f43_ rfl
    have b49_ : 0 ≤ Int32.toInt (M45_.1 124 56) ∧ Int32.toInt (M45_.1 124 56) ≤ 6 := pvok_r o47_ 124 56 rfl
    refine pw_blkw hT 4 (pc := 90) (lo := [some (pvR 124), none]) (st := []) (M := pvu M45_ 124 40 (M45_.1 124 56)) rfl ⟨trivial, trivial, rfl, rfl, trivial⟩ (fun M50_ e51_ => ?_)
    have o52_ : pvOk M50_ := pvok_u2 e51_ o47_ rfl b49_
    have f53_ : pvFr fp_eX10_undo_124 M M50_ := pvfr_u e51_ f48_ rfl
    have b54_ : 0 ≤ Int32.toInt (M50_.1 124 57) ∧ Int32.toInt (M50_.1 124 57) ≤ 8 := pvok_r o52_ 124 57 rfl
    refine pw_blkw hT 4 (pc := 98) (lo := [some (pvR 124), none]) (st := []) (M := pvu M50_ 124 43 (M50_.1 124 57)) rfl ⟨trivial, trivial, rfl, rfl, trivial⟩ (fun M55_ e56_ => ?_)
    have o57_ : pvOk M55_ := pvok_u2 e56_ o52_ rfl b54_
    have f58_ : pvFr fp_eX10_undo_124 M M55_ := pvfr_u e56_ f53_ rfl
    refine pw_blk hT 2 (S' := (100, [some (pvR 124), some (pvI 0)], [], M55_)) rfl ⟨trivial, trivial, trivial⟩ ?_
    have e59_ : (M55_.1 124 46) = (M.1 124 46) := (((((((((((pvu_n e56_ 124 46 (Or.inr (by decide))).trans (pvu_n e51_ 124 46 (Or.inr (by decide)))).trans (pvu_n e46_ 124 46 (Or.inr (by decide)))).trans (pvu_n e41_ 124 46 (Or.inr (by decide)))).trans (pvu_n e36_ 124 46 (Or.inr (by decide)))).trans (pvu_n e31_ 124 46 (Or.inr (by decide)))).trans (pvu_n e26_ 124 46 (Or.inr (by decide)))).trans (pvu_n e21_ 124 46 (Or.inr (by decide)))).trans (pvu_n e16_ 124 46 (Or.inr (by decide)))).trans (pvu_n e11_ 124 46 (Or.inr (by decide)))).trans (pvu_n e6_ 124 46 (Or.inr (by decide))))
    have b60_ : 1 ≤ Int32.toInt (M55_.1 124 46) ∧ Int32.toInt (M55_.1 124 46) ≤ 1 := (by rw [e59_]; exact b3_)
    have hlz6761_ : ∀ (nz6761_ : Nat) (i1z6761_ : Int32) (Mz6761_ : pvM), (pvOk Mz6761_) → (pvFr fp_eX10_undo_124 M Mz6761_) → (Mz6761_.1 124 46 = M55_.1 124 46) → (0 ≤ Int32.toInt i1z6761_ ∧ Int32.toInt i1z6761_ ≤ 7) → (Int32.toInt (Mz6761_.1 124 15) = Int32.toInt (M.1 124 47)) → (Int32.toInt (Mz6761_.1 124 3) = Int32.toInt (M.1 124 51)) → (Mz6761_.1 124 0 = (M.1 124 48)) → (Mz6761_.1 124 3 = (M.1 124 51)) → (Mz6761_.1 124 4 = (M.1 124 52)) → (Mz6761_.1 124 40 = (M.1 124 56)) → (Mz6761_.1 124 43 = (M.1 124 57)) → (zC1 125 151 (Int32.toNatClampNeg i1z6761_) M Mz6761_) → (zC1 126 152 (Int32.toNatClampNeg i1z6761_) M Mz6761_) → (zC1 127 153 (Int32.toNatClampNeg i1z6761_) M Mz6761_) → (zC1 128 154 (Int32.toNatClampNeg i1z6761_) M Mz6761_) → (zC1 129 155 (Int32.toNatClampNeg i1z6761_) M Mz6761_) → (zC1 131 162 (Int32.toNatClampNeg i1z6761_) M Mz6761_) → (zC1 145 157 (Int32.toNatClampNeg i1z6761_) M Mz6761_) → (Mz6761_.1 124 37 = (M.1 124 55)) → (zhide ((8 - Int32.toInt i1z6761_).toNat < nz6761_)) → PW 94 d (100, [some (pvR 124), some (pvI i1z6761_)], [], Mz6761_) (fun r X => (∃ x : Int32, r = some (pvI x) ∧ ((-3) ≤ Int32.toInt x ∧ Int32.toInt x ≤ 7) ∧ x = (if (M.1 124 46) = 0 then (-3) else (M.1 124 48))) ∧ pvOk X ∧ pvFr fp_eX10_undo_124 M X ∧ ((pvWF M → pvWF X) ∧ (Int32.toInt (M.1 124 51) ≤ 99 → Int32.toInt (M.1 124 3) ≤ 99 → Int32.toInt (X.1 124 3) ≤ 99)) ∧ zU10 M X ∧ zU1 124 46 145 157 7 M X ∧ zU1 124 46 147 158 6 M X ∧ zU1 124 46 148 159 6 M X ∧ zU1 124 46 149 160 8 M X ∧ zU1 124 46 150 161 8 M X ∧ X.1 124 0 = (if (M.1 124 46) = 0 then (M.1 124 0) else (M.1 124 48)) ∧ X.1 124 3 = (if (M.1 124 46) = 0 then (M.1 124 3) else (M.1 124 51)) ∧ X.1 124 4 = (if (M.1 124 46) = 0 then (M.1 124 4) else (M.1 124 52)) ∧ X.1 124 40 = (if (M.1 124 46) = 0 then (M.1 124 40) else (M.1 124 56)) ∧ X.1 124 43 = (if (M.1 124 46) = 0 then (M.1 124 43) else (M.1 124 57)) ∧ X.1 124 37 = (if (M.1 124 46) = 0 then (M.1 124 37) else (M.1 124 55))) := by
      intro nz6761_
      induction nz6761_ with
      | zero => intro i1z6761_ Mz6761_ oz6761_ fz6761_ k124_46z6761_ h1z6761_ j0z6761_ j1z6761_ j2z6761_ j3z6761_ j4z6761_ j5z6761_ j6z6761_ j7z6761_ j8z6761_ j9z6761_ j10z6761_ j11z6761_ j12z6761_ j13z6761_ j14z6761_ hmz6761_; exact absurd (zshow hmz6761_) (Nat.not_lt_zero _)
      | succ nz6761_ ihz6761_ =>
        intro i1z6761_ Mz6761_ oz6761_ fz6761_ k124_46z6761_ h1z6761_ j0z6761_ j1z6761_ j2z6761_ j3z6761_ j4z6761_ j5z6761_ j6z6761_ j7z6761_ j8z6761_ j9z6761_ j10z6761_ j11z6761_ j12z6761_ j13z6761_ j14z6761_ hmz6761_
        have b6762_ : (-1) ≤ Int32.toInt (Mz6761_.1 124 15) ∧ Int32.toInt (Mz6761_.1 124 15) ≤ 5 := pvok_r oz6761_ 124 15 rfl
        have b6763_ : 0 ≤ Int32.toInt (Mz6761_.1 124 3) ∧ Int32.toInt (Mz6761_.1 124 3) ≤ 108 := pvok_r oz6761_ 124 3 rfl
        refine pw_blk hT 2 (S' := (103, [some (pvR 124), some (pvI i1z6761_)], [pvI 7, pvI i1z6761_], Mz6761_)) rfl ⟨trivial, trivial, trivial⟩ ?_
        refine pw_ic hT (c := 7 ≤ i1z6761_) rfl rfl (fun c6764_ => ?_) (fun c6764_ => ?_)
        · have b6765_ : 7 ≤ Int32.toInt i1z6761_ ∧ Int32.toInt i1z6761_ ≤ 7 := zr_le_r 7 c6764_ h1z6761_ (show 7 ≤ Int32.toInt 7 ∧ Int32.toInt 7 ≤ 7 from (by decide)) (by decide)
          refine pw_blk hT 2 (S' := (198, [some (pvR 124), some (pvI 0)], [], Mz6761_)) rfl ⟨trivial, trivial, trivial⟩ ?_
          have e6766_ : (Mz6761_.1 124 46) = (M55_.1 124 46) := (k124_46z6761_)
          have b6767_ : 1 ≤ Int32.toInt (Mz6761_.1 124 46) ∧ Int32.toInt (Mz6761_.1 124 46) ≤ 1 := (by rw [e6766_]; exact b60_)
          have hlz8389_ : ∀ (nz8389_ : Nat) (i1z8389_ : Int32) (Mz8389_ : pvM), (pvOk Mz8389_) → (pvFr fp_eX10_undo_124 M Mz8389_) → (Mz8389_.1 124 46 = Mz6761_.1 124 46) → (0 ≤ Int32.toInt i1z8389_ ∧ Int32.toInt i1z8389_ ≤ 28) → (Int32.toInt (Mz8389_.1 124 15) = Int32.toInt (M.1 124 47)) → (Int32.toInt (Mz8389_.1 124 3) = Int32.toInt (M.1 124 51)) → (Mz8389_.1 124 0 = (M.1 124 48)) → (Mz8389_.1 124 3 = (M.1 124 51)) → (Mz8389_.1 124 4 = (M.1 124 52)) → (Mz8389_.1 124 40 = (M.1 124 56)) → (Mz8389_.1 124 43 = (M.1 124 57)) → (zC1 125 151 7 M Mz8389_) → (zC1 126 152 7 M Mz8389_) → (zC1 127 153 7 M Mz8389_) → (zC1 128 154 7 M Mz8389_) → (zC1 129 155 7 M Mz8389_) → (zC1 131 162 7 M Mz8389_) → (zC1 145 157 7 M Mz8389_) → (zC1 130 156 (Int32.toNatClampNeg i1z8389_) M Mz8389_) → (Mz8389_.1 124 37 = (M.1 124 55)) → (zhide ((29 - Int32.toInt i1z8389_).toNat < nz8389_)) → PW 94 d (198, [some (pvR 124), some (pvI i1z8389_)], [], Mz8389_) (fun r X => (∃ x : Int32, r = some (pvI x) ∧ ((-3) ≤ Int32.toInt x ∧ Int32.toInt x ≤ 7) ∧ x = (if (M.1 124 46) = 0 then (-3) else (M.1 124 48))) ∧ pvOk X ∧ pvFr fp_eX10_undo_124 M X ∧ ((pvWF M → pvWF X) ∧ (Int32.toInt (M.1 124 51) ≤ 99 → Int32.toInt (M.1 124 3) ≤ 99 → Int32.toInt (X.1 124 3) ≤ 99)) ∧ zU10 M X ∧ zU1 124 46 145 157 7 M X ∧ zU1 124 46 147 158 6 M X ∧ zU1 124 46 148 159 6 M X ∧ zU1 124 46 149 160 8 M X ∧ zU1 124 46 150 161 8 M X ∧ X.1 124 0 = (if (M.1 124 46) = 0 then (M.1 124 0) else (M.1 124 48)) ∧ X.1 124 3 = (if (M.1 124 46) = 0 then (M.1 124 3) else (M.1 124 51)) ∧ X.1 124 4 = (if (M.1 124 46) = 0 then (M.1 124 4) else (M.1 124 52)) ∧ X.1 124 40 = (if (M.1 124 46) = 0 then (M.1 124 40) else (M.1 124 56)) ∧ X.1 124 43 = (if (M.1 124 46) = 0 then (M.1 124 43) else (M.1 124 57)) ∧ X.1 124 37 = (if (M.1 124 46) = 0 then (M.1 124 37) else (M.1 124 55))) := by
            intro nz8389_
            induction nz8389_ with
            | zero => intro i1z8389_ Mz8389_ oz8389_ fz8389_ k124_46z8389_ h1z8389_ j0z8389_ j1z8389_ j2z8389_ j3z8389_ j4z8389_ j5z8389_ j6z8389_ j7z8389_ j8z8389_ j9z8389_ j10z8389_ j11z8389_ j12z8389_ j13z8389_ j14z8389_ j15z8389_ hmz8389_; exact absurd (zshow hmz8389_) (Nat.not_lt_zero _)
            | succ nz8389_ ihz8389_ =>
              intro i1z8389_ Mz8389_ oz8389_ fz8389_ k124_46z8389_ h1z8389_ j0z8389_ j1z8389_ j2z8389_ j3z8389_ j4z8389_ j5z8389_ j6z8389_ j7z8389_ j8z8389_ j9z8389_ j10z8389_ j11z8389_ j12z8389_ j13z8389_ j14z8389_ j15z8389_ hmz8389_
              have b8390_ : (-1) ≤ Int32.toInt (Mz8389_.1 124 15) ∧ Int32.toInt (Mz8389_.1 124 15) ≤ 5 := pvok_r oz8389_ 124 15 rfl
              have b8391_ : 0 ≤ Int32.toInt (Mz8389_.1 124 3) ∧ Int32.toInt (Mz8389_.1 124 3) ≤ 108 := pvok_r oz8389_ 124 3 rfl
              refine pw_blk hT 2 (S' := (201, [some (pvR 124), some (pvI i1z8389_)], [pvI 28, pvI i1z8389_], Mz8389_)) rfl ⟨trivial, trivial, trivial⟩ ?_
              refine pw_ic hT (c := 28 ≤ i1z8389_) rfl rfl (fun c8392_ => ?_) (fun c8392_ => ?_)
              · have b8393_ : 28 ≤ Int32.toInt i1z8389_ ∧ Int32.toInt i1z8389_ ≤ 28 := zr_le_r 28 c8392_ h1z8389_ (show 28 ≤ Int32.toInt 28 ∧ Int32.toInt 28 ≤ 28 from (by decide)) (by decide)
                refine pw_blk hT 2 (S' := (224, [some (pvR 124), some (pvI 0)], [], Mz8389_)) rfl ⟨trivial, trivial, trivial⟩ ?_
                have e8394_ : (Mz8389_.1 124 46) = (Mz6761_.1 124 46) := (k124_46z8389_)
                have b8395_ : 1 ≤ Int32.toInt (Mz8389_.1 124 46) ∧ Int32.toInt (Mz8389_.1 124 46) ≤ 1 := (by rw [e8394_]; exact b6767_)
                have hlz8777_ : ∀ (nz8777_ : Nat) (i1z8777_ : Int32) (Mz8777_ : pvM), (pvOk Mz8777_) → (pvFr fp_eX10_undo_124 M Mz8777_) → (Mz8777_.1 124 46 = Mz8389_.1 124 46) → (0 ≤ Int32.toInt i1z8777_ ∧ Int32.toInt i1z8777_ ≤ 6) → (Int32.toInt (Mz8777_.1 124 15) = Int32.toInt (M.1 124 47)) → (Int32.toInt (Mz8777_.1 124 3) = Int32.toInt (M.1 124 51)) → (Mz8777_.1 124 0 = (M.1 124 48)) → (Mz8777_.1 124 3 = (M.1 124 51)) → (Mz8777_.1 124 4 = (M.1 124 52)) → (Mz8777_.1 124 40 = (M.1 124 56)) → (Mz8777_.1 124 43 = (M.1 124 57)) → (zC1 125 151 7 M Mz8777_) → (zC1 126 152 7 M Mz8777_) → (zC1 127 153 7 M Mz8777_) → (zC1 128 154 7 M Mz8777_) → (zC1 129 155 7 M Mz8777_) → (zC1 131 162 7 M Mz8777_) → (zC1 145 157 7 M Mz8777_) → (zC1 130 156 28 M Mz8777_) → (zC1 147 158 (Int32.toNatClampNeg i1z8777_) M Mz8777_) → (zC1 148 159 (Int32.toNatClampNeg i1z8777_) M Mz8777_) → (Mz8777_.1 124 37 = (M.1 124 55)) → (zhide ((7 - Int32.toInt i1z8777_).toNat < nz8777_)) → PW 94 d (224, [some (pvR 124), some (pvI i1z8777_)], [], Mz8777_) (fun r X => (∃ x : Int32, r = some (pvI x) ∧ ((-3) ≤ Int32.toInt x ∧ Int32.toInt x ≤ 7) ∧ x = (if (M.1 124 46) = 0 then (-3) else (M.1 124 48))) ∧ pvOk X ∧ pvFr fp_eX10_undo_124 M X ∧ ((pvWF M → pvWF X) ∧ (Int32.toInt (M.1 124 51) ≤ 99 → Int32.toInt (M.1 124 3) ≤ 99 → Int32.toInt (X.1 124 3) ≤ 99)) ∧ zU10 M X ∧ zU1 124 46 145 157 7 M X ∧ zU1 124 46 147 158 6 M X ∧ zU1 124 46 148 159 6 M X ∧ zU1 124 46 149 160 8 M X ∧ zU1 124 46 150 161 8 M X ∧ X.1 124 0 = (if (M.1 124 46) = 0 then (M.1 124 0) else (M.1 124 48)) ∧ X.1 124 3 = (if (M.1 124 46) = 0 then (M.1 124 3) else (M.1 124 51)) ∧ X.1 124 4 = (if (M.1 124 46) = 0 then (M.1 124 4) else (M.1 124 52)) ∧ X.1 124 40 = (if (M.1 124 46) = 0 then (M.1 124 40) else (M.1 124 56)) ∧ X.1 124 43 = (if (M.1 124 46) = 0 then (M.1 124 43) else (M.1 124 57)) ∧ X.1 124 37 = (if (M.1 124 46) = 0 then (M.1 124 37) else (M.1 124 55))) := by
                  intro nz8777_
                  induction nz8777_ with
                  | zero => intro i1z8777_ Mz8777_ oz8777_ fz8777_ k124_46z8777_ h1z8777_ j0z8777_ j1z8777_ j2z8777_ j3z8777_ j4z8777_ j5z8777_ j6z8777_ j7z8777_ j8z8777_ j9z8777_ j10z8777_ j11z8777_ j12z8777_ j13z8777_ j14z8777_ j15z8777_ j16z8777_ j17z8777_ hmz8777_; exact absurd (zshow hmz8777_) (Nat.not_lt_zero _)
                  | succ nz8777_ ihz8777_ =>
                    intro i1z8777_ Mz8777_ oz8777_ fz8777_ k124_46z8777_ h1z8777_ j0z8777_ j1z8777_ j2z8777_ j3z8777_ j4z8777_ j5z8777_ j6z8777_ j7z8777_ j8z8777_ j9z8777_ j10z8777_ j11z8777_ j12z8777_ j13z8777_ j14z8777_ j15z8777_ j16z8777_ j17z8777_ hmz8777_
                    have b8778_ : (-1) ≤ Int32.toInt (Mz8777_.1 124 15) ∧ Int32.toInt (Mz8777_.1 124 15) ≤ 5 := pvok_r oz8777_ 124 15 rfl
                    have b8779_ : 0 ≤ Int32.toInt (Mz8777_.1 124 3) ∧ Int32.toInt (Mz8777_.1 124 3) ≤ 108 := pvok_r oz8777_ 124 3 rfl
                    refine pw_blk hT 2 (S' := (227, [some (pvR 124), some (pvI i1z8777_)], [pvI 6, pvI i1z8777_], Mz8777_)) rfl ⟨trivial, trivial, trivial⟩ ?_
                    refine pw_ic hT (c := 6 ≤ i1z8777_) rfl rfl (fun c8780_ => ?_) (fun c8780_ => ?_)
                    · have b8781_ : 6 ≤ Int32.toInt i1z8777_ ∧ Int32.toInt i1z8777_ ≤ 6 := zr_le_r 6 c8780_ h1z8777_ (show 6 ≤ Int32.toInt 6 ∧ Int32.toInt 6 ≤ 6 from (by decide)) (by decide)
                      refine pw_blk hT 2 (S' := (262, [some (pvR 124), some (pvI 0)], [], Mz8777_)) rfl ⟨trivial, trivial, trivial⟩ ?_
                      have e8782_ : (Mz8777_.1 124 46) = (Mz8389_.1 124 46) := (k124_46z8777_)
                      have b8783_ : 1 ≤ Int32.toInt (Mz8777_.1 124 46) ∧ Int32.toInt (Mz8777_.1 124 46) ≤ 1 := (by rw [e8782_]; exact b8395_)
                      have hlz8849_ : ∀ (nz8849_ : Nat) (i1z8849_ : Int32) (Mz8849_ : pvM), (pvOk Mz8849_) → (pvFr fp_eX10_undo_124 M Mz8849_) → (Mz8849_.1 124 46 = Mz8777_.1 124 46) → (0 ≤ Int32.toInt i1z8849_ ∧ Int32.toInt i1z8849_ ≤ 8) → (Int32.toInt (Mz8849_.1 124 15) = Int32.toInt (M.1 124 47)) → (Int32.toInt (Mz8849_.1 124 3) = Int32.toInt (M.1 124 51)) → (Mz8849_.1 124 0 = (M.1 124 48)) → (Mz8849_.1 124 3 = (M.1 124 51)) → (Mz8849_.1 124 4 = (M.1 124 52)) → (Mz8849_.1 124 40 = (M.1 124 56)) → (Mz8849_.1 124 43 = (M.1 124 57)) → (zC1 125 151 7 M Mz8849_) → (zC1 126 152 7 M Mz8849_) → (zC1 127 153 7 M Mz8849_) → (zC1 128 154 7 M Mz8849_) → (zC1 129 155 7 M Mz8849_) → (zC1 131 162 7 M Mz8849_) → (zC1 145 157 7 M Mz8849_) → (zC1 130 156 28 M Mz8849_) → (zC1 147 158 6 M Mz8849_) → (zC1 148 159 6 M Mz8849_) → (zC1 149 160 (Int32.toNatClampNeg i1z8849_) M Mz8849_) → (zC1 150 161 (Int32.toNatClampNeg i1z8849_) M Mz8849_) → (Mz8849_.1 124 37 = (M.1 124 55)) → (zhide ((9 - Int32.toInt i1z8849_).toNat < nz8849_)) → PW 94 d (262, [some (pvR 124), some (pvI i1z8849_)], [], Mz8849_) (fun r X => (∃ x : Int32, r = some (pvI x) ∧ ((-3) ≤ Int32.toInt x ∧ Int32.toInt x ≤ 7) ∧ x = (if (M.1 124 46) = 0 then (-3) else (M.1 124 48))) ∧ pvOk X ∧ pvFr fp_eX10_undo_124 M X ∧ ((pvWF M → pvWF X) ∧ (Int32.toInt (M.1 124 51) ≤ 99 → Int32.toInt (M.1 124 3) ≤ 99 → Int32.toInt (X.1 124 3) ≤ 99)) ∧ zU10 M X ∧ zU1 124 46 145 157 7 M X ∧ zU1 124 46 147 158 6 M X ∧ zU1 124 46 148 159 6 M X ∧ zU1 124 46 149 160 8 M X ∧ zU1 124 46 150 161 8 M X ∧ X.1 124 0 = (if (M.1 124 46) = 0 then (M.1 124 0) else (M.1 124 48)) ∧ X.1 124 3 = (if (M.1 124 46) = 0 then (M.1 124 3) else (M.1 124 51)) ∧ X.1 124 4 = (if (M.1 124 46) = 0 then (M.1 124 4) else (M.1 124 52)) ∧ X.1 124 40 = (if (M.1 124 46) = 0 then (M.1 124 40) else (M.1 124 56)) ∧ X.1 124 43 = (if (M.1 124 46) = 0 then (M.1 124 43) else (M.1 124 57)) ∧ X.1 124 37 = (if (M.1 124 46) = 0 then (M.1 124 37) else (M.1 124 55))) := by
                        intro nz8849_
                        induction nz8849_ with
                        | zero => intro i1z8849_ Mz8849_ oz8849_ fz8849_ k124_46z8849_ h1z8849_ j0z8849_ j1z8849_ j2z8849_ j3z8849_ j4z8849_ j5z8849_ j6z8849_ j7z8849_ j8z8849_ j9z8849_ j10z8849_ j11z8849_ j12z8849_ j13z8849_ j14z8849_ j15z8849_ j16z8849_ j17z8849_ j18z8849_ j19z8849_ hmz8849_; exact absurd (zshow hmz8849_) (Nat.not_lt_zero _)
                        | succ nz8849_ ihz8849_ =>
                          intro i1z8849_ Mz8849_ oz8849_ fz8849_ k124_46z8849_ h1z8849_ j0z8849_ j1z8849_ j2z8849_ j3z8849_ j4z8849_ j5z8849_ j6z8849_ j7z8849_ j8z8849_ j9z8849_ j10z8849_ j11z8849_ j12z8849_ j13z8849_ j14z8849_ j15z8849_ j16z8849_ j17z8849_ j18z8849_ j19z8849_ hmz8849_
                          have b8850_ : (-1) ≤ Int32.toInt (Mz8849_.1 124 15) ∧ Int32.toInt (Mz8849_.1 124 15) ≤ 5 := pvok_r oz8849_ 124 15 rfl
                          have b8851_ : 0 ≤ Int32.toInt (Mz8849_.1 124 3) ∧ Int32.toInt (Mz8849_.1 124 3) ≤ 108 := pvok_r oz8849_ 124 3 rfl
                          refine pw_blk hT 2 (S' := (265, [some (pvR 124), some (pvI i1z8849_)], [pvI 8, pvI i1z8849_], Mz8849_)) rfl ⟨trivial, trivial, trivial⟩ ?_
                          refine pw_ic hT (c := 8 ≤ i1z8849_) rfl rfl (fun c8852_ => ?_) (fun c8852_ => ?_)
                          · have b8853_ : 8 ≤ Int32.toInt i1z8849_ ∧ Int32.toInt i1z8849_ ≤ 8 := zr_le_r 8 c8852_ h1z8849_ (show 8 ≤ Int32.toInt 8 ∧ Int32.toInt 8 ≤ 8 from (by decide)) (by decide)
                            have b8854_ : 0 ≤ Int32.toInt (Mz8849_.1 124 0) ∧ Int32.toInt (Mz8849_.1 124 0) ≤ 7 := pvok_r oz8849_ 124 0 rfl
                            refine pw_blk hT 2 (S' := (302, [some (pvR 124), some (pvI i1z8849_)], [pvI (Mz8849_.1 124 0)], Mz8849_)) rfl ⟨trivial, rfl, trivial⟩ ?_
                            exact pw_ret hT rfl (r := some (pvI (Mz8849_.1 124 0))) (M' := Mz8849_) ⟨rfl, rfl⟩ ⟨⟨_, rfl, (zr_wide b8854_ (by decide) (by decide)), (by rw [if_neg c2_]; first | done | exact (show (Mz8849_.1 124 0) = (M.1 124 48) from by rw [j2z8849_]) | (rw [if_neg c2_]; exact (show (Mz8849_.1 124 0) = (M.1 124 48) from by rw [j2z8849_])))⟩, oz8849_, fz8849_, ⟨fun hz => ⟨by have z3 := hz.1; have z4 := hz.2.1; have w0 : Int32.toInt (Mz8849_.1 124 14) = Int32.toInt (M.1 124 14) := congrArg Int32.toInt (fz8849_ 124 14 rfl); omega, by have z3 := hz.1; have z4 := hz.2.1; have w0 : Int32.toInt (Mz8849_.1 124 14) = Int32.toInt (M.1 124 14) := congrArg Int32.toInt (fz8849_ 124 14 rfl); have v0 : Int32.toInt (Mz8849_.1 124 47) = Int32.toInt (M.1 124 47) := congrArg Int32.toInt (fz8849_ 124 47 rfl); omega, fun a ha => pvWh_r (pvfr_row (L := fpL_eX10_undo_124) fz8849_ rfl) (pvfr_row (L := fpL_eX10_undo_124) fz8849_ rfl) (pvfr_row (L := fpL_eX10_undo_124) fz8849_ rfl) (pvfr_row (L := fpL_eX10_undo_124) fz8849_ rfl) (pvfr_row (L := fpL_eX10_undo_124) fz8849_ rfl) (hz.2.2 a (by have w0 : Int32.toInt (Mz8849_.1 124 14) = Int32.toInt (M.1 124 14) := congrArg Int32.toInt (fz8849_ 124 14 rfl); omega))⟩, fun hc hc2 => by omega⟩, (Or.inr ⟨c2_, (zD_c j7z8849_ j8z8849_ j9z8849_ j10z8849_ j11z8849_ j14z8849_)⟩), (Or.inr ⟨c2_, j13z8849_⟩), (Or.inr ⟨c2_, j15z8849_⟩), (Or.inr ⟨c2_, j16z8849_⟩), (Or.inr ⟨c2_, (zC1_n (znp0 b8853_) j17z8849_)⟩), (Or.inr ⟨c2_, (zC1_n (znp0 b8853_) j18z8849_)⟩), (by rw [if_neg c2_]; first | done | exact j2z8849_ | (rw [if_neg c2_]; done) | (rw [if_neg c2_]; exact j2z8849_)), (by rw [if_neg c2_]; first | done | exact j3z8849_ | (rw [if_neg c2_]; done) | (rw [if_neg c2_]; exact j3z8849_)), (by rw [if_neg c2_]; first | done | exact j4z8849_ | (rw [if_neg c2_]; done) | (rw [if_neg c2_]; exact j4z8849_)), (by rw [if_neg c2_]; first | done | exact j5z8849_ | (rw [if_neg c2_]; done) | (rw [if_neg c2_]; exact j5z8849_)), (by rw [if_neg c2_]; first | done | exact j6z8849_ | (rw [if_neg c2_]; done) | (rw [if_neg c2_]; exact j6z8849_)), (by rw [if_neg c2_]; first | done | exact j19z8849_ | (rw [if_neg c2_]; done) | (rw [if_neg c2_]; exact j19z8849_))⟩
                          · have b8855_ : 0 ≤ Int32.toInt i1z8849_ ∧ Int32.toInt i1z8849_ ≤ 7 := zr_nle_r 7 c8852_ h1z8849_ (show 8 ≤ Int32.toInt 8 ∧ Int32.toInt 8 ≤ 8 from (by decide)) (by decide)
                            have b8856_ : 0 ≤ Int32.toInt (Mz8849_.1 160 (Int32.toNatClampNeg i1z8849_)) ∧ Int32.toInt (Mz8849_.1 160 (Int32.toNatClampNeg i1z8849_)) ≤ 6 := pvok_r oz8849_ 160 (Int32.toNatClampNeg i1z8849_) rfl
                            refine pw_blkw hT 8 (pc := 280) (lo := [some (pvR 124), some (pvI i1z8849_)]) (st := []) (M := pvu Mz8849_ 149 (Int32.toNatClampNeg i1z8849_) (Mz8849_.1 160 (Int32.toNatClampNeg i1z8849_))) rfl ⟨trivial, rfl, trivial, trivial, rfl, trivial, ⟨rfl, (zr_in (n := 8) b8855_ (by decide) (by decide))⟩, ⟨rfl, (zr_in (n := 8) b8855_ (by decide) (by decide))⟩, trivial⟩ (fun M8857_ e8858_ => ?_)
                            have o8859_ : pvOk M8857_ := pvok_u2 e8858_ oz8849_ rfl b8856_
                            have f8860_ : pvFr fp_eX10_undo_124 M M8857_ := pvfr_u e8858_ fz8849_ rfl
                            have b8861_ : 0 ≤ Int32.toInt (M8857_.1 161 (Int32.toNatClampNeg i1z8849_)) ∧ Int32.toInt (M8857_.1 161 (Int32.toNatClampNeg i1z8849_)) ≤ 9999 := pvok_r o8859_ 161 (Int32.toNatClampNeg i1z8849_) rfl
                            refine pw_blkw hT 8 (pc := 292) (lo := [some (pvR 124), some (pvI i1z8849_)]) (st := []) (M := pvu M8857_ 150 (Int32.toNatClampNeg i1z8849_) (M8857_.1 161 (Int32.toNatClampNeg i1z8849_))) rfl ⟨trivial, rfl, trivial, trivial, rfl, trivial, ⟨rfl, (zr_in (n := 8) b8855_ (by decide) (by decide))⟩, ⟨rfl, (zr_in (n := 8) b8855_ (by decide) (by decide))⟩, trivial⟩ (fun M8862_ e8863_ => ?_)
                            have o8864_ : pvOk M8862_ := pvok_u2 e8863_ o8859_ rfl b8861_
                            have f8865_ : pvFr fp_eX10_undo_124 M M8862_ := pvfr_u e8863_ f8860_ rfl
                            obtain ⟨q8867_, b8866_⟩ : (Int32.toInt (i1z8849_ + 1) = Int32.toInt i1z8849_ + 1) ∧ (1 ≤ Int32.toInt (i1z8849_ + 1) ∧ Int32.toInt (i1z8849_ + 1) ≤ 8) := zadd_k i1z8849_ 1 1 1 8 b8855_ (by decide) (by decide) (by decide) (by decide) (by decide)
                            refine pw_blk hT 2 (S' := (262, [some (pvR 124), some (pvI (i1z8849_ + 1))], [], M8862_)) rfl ⟨trivial, trivial, trivial⟩ ?_
                            have j8868_ : Int32.toInt (M8862_.1 124 15) = Int32.toInt (M.1 124 47) := (by have y01 : Int32.toInt (M8862_.1 124 15) = Int32.toInt (Mz8849_.1 124 15) := congrArg Int32.toInt ((pvu_n e8863_ 124 15 (Or.inl (by decide))).trans (pvu_n e8858_ 124 15 (Or.inl (by decide)))); omega)
                            have j8869_ : Int32.toInt (M8862_.1 124 3) = Int32.toInt (M.1 124 51) := (by have y01 : Int32.toInt (M8862_.1 124 3) = Int32.toInt (Mz8849_.1 124 3) := congrArg Int32.toInt ((pvu_n e8863_ 124 3 (Or.inl (by decide))).trans (pvu_n e8858_ 124 3 (Or.inl (by decide)))); omega)
                            have j8870_ : M8862_.1 124 0 = (M.1 124 48) := (((pvu_n e8863_ 124 0 (Or.inl (by decide))).trans (pvu_n e8858_ 124 0 (Or.inl (by decide)))).trans (j2z8849_))
                            have j8871_ : M8862_.1 124 3 = (M.1 124 51) := (((pvu_n e8863_ 124 3 (Or.inl (by decide))).trans (pvu_n e8858_ 124 3 (Or.inl (by decide)))).trans (j3z8849_))
                            have j8872_ : M8862_.1 124 4 = (M.1 124 52) := (((pvu_n e8863_ 124 4 (Or.inl (by decide))).trans (pvu_n e8858_ 124 4 (Or.inl (by decide)))).trans (j4z8849_))
                            have j8873_ : M8862_.1 124 40 = (M.1 124 56) := (((pvu_n e8863_ 124 40 (Or.inl (by decide))).trans (pvu_n e8858_ 124 40 (Or.inl (by decide)))).trans (j5z8849_))
                            have j8874_ : M8862_.1 124 43 = (M.1 124 57) := (((pvu_n e8863_ 124 43 (Or.inl (by decide))).trans (pvu_n e8858_ 124 43 (Or.inl (by decide)))).trans (j6z8849_))
                            have j8875_ : zC1 125 151 7 M M8862_ := (zC1_u (zC1_u j7z8849_ e8858_ (by decide)) e8863_ (by decide))
                            have j8876_ : zC1 126 152 7 M M8862_ := (zC1_u (zC1_u j8z8849_ e8858_ (by decide)) e8863_ (by decide))
                            have j8877_ : zC1 127 153 7 M M8862_ := (zC1_u (zC1_u j9z8849_ e8858_ (by decide)) e8863_ (by decide))
                            have j8878_ : zC1 128 154 7 M M8862_ := (zC1_u (zC1_u j10z8849_ e8858_ (by decide)) e8863_ (by decide))
                            have j8879_ : zC1 129 155 7 M M8862_ := (zC1_u (zC1_u j11z8849_ e8858_ (by decide)) e8863_ (by decide))
                            have j8880_ : zC1 131 162 7 M M8862_ := (zC1_u (zC1_u j12z8849_ e8858_ (by decide)) e8863_ (by decide))
                            have j8881_ : zC1 145 157 7 M M8862_ := (zC1_u (zC1_u j13z8849_ e8858_ (by decide)) e8863_ (by decide))
                            have j8882_ : zC1 130 156 28 M M8862_ := (zC1_u (zC1_u j14z8849_ e8858_ (by decide)) e8863_ (by decide))
                            have j8883_ : zC1 147 158 6 M M8862_ := (zC1_u (zC1_u j15z8849_ e8858_ (by decide)) e8863_ (by decide))
                            have j8884_ : zC1 148 159 6 M M8862_ := (zC1_u (zC1_u j16z8849_ e8858_ (by decide)) e8863_ (by decide))
                            have j8885_ : zC1 149 160 (Int32.toNatClampNeg (i1z8849_ + 1)) M M8862_ := (zC1_n (znp1 b8855_ (by decide) (by decide)) (zC1_u (zC1_w j17z8849_ e8858_ (fz8849_ 160 (Int32.toNatClampNeg i1z8849_) rfl)) e8863_ (by decide)))
                            have j8886_ : zC1 150 161 (Int32.toNatClampNeg (i1z8849_ + 1)) M M8862_ := (zC1_n (znp1 b8855_ (by decide) (by decide)) (zC1_w (zC1_u j18z8849_ e8858_ (by decide)) e8863_ ((pvu_n e8858_ 161 (Int32.toNatClampNeg i1z8849_) (Or.inl (by decide))).trans (fz8849_ 161 (Int32.toNatClampNeg i1z8849_) rfl))))
                            have j8887_ : M8862_.1 124 37 = (M.1 124 55) := (((pvu_n e8863_ 124 37 (Or.inl (by decide))).trans (pvu_n e8858_ 124 37 (Or.inl (by decide)))).trans (j19z8849_))
                            exact ihz8849_ (i1z8849_ + 1) M8862_ o8864_ f8865_ (((pvu_n e8863_ 124 46 (Or.inl (by decide))).trans (pvu_n e8858_ 124 46 (Or.inl (by decide)))).trans (k124_46z8849_)) (zr_wide b8866_ (by decide) (by decide)) j8868_ j8869_ j8870_ j8871_ j8872_ j8873_ j8874_ j8875_ j8876_ j8877_ j8878_ j8879_ j8880_ j8881_ j8882_ j8883_ j8884_ j8885_ j8886_ j8887_ (zhid (by have hm0 := zshow hmz8849_; have y01 : Int32.toInt (M8862_.1 124 15) = Int32.toInt (Mz8849_.1 124 15) := congrArg Int32.toInt ((pvu_n e8863_ 124 15 (Or.inl (by decide))).trans (pvu_n e8858_ 124 15 (Or.inl (by decide)))); have y11 : Int32.toInt (M8862_.1 124 3) = Int32.toInt (Mz8849_.1 124 3) := congrArg Int32.toInt ((pvu_n e8863_ 124 3 (Or.inl (by decide))).trans (pvu_n e8858_ 124 3 (Or.inl (by decide)))); omega))
                      have u8888_ : Int32.toInt 0 = 0 := by decide
                      have j8889_ : Int32.toInt (Mz8777_.1 124 15) = Int32.toInt (M.1 124 47) := (by omega)
                      have j8890_ : Int32.toInt (Mz8777_.1 124 3) = Int32.toInt (M.1 124 51) := (by omega)
                      have j8891_ : Mz8777_.1 124 0 = (M.1 124 48) := j2z8777_
                      have j8892_ : Mz8777_.1 124 3 = (M.1 124 51) := j3z8777_
                      have j8893_ : Mz8777_.1 124 4 = (M.1 124 52) := j4z8777_
                      have j8894_ : Mz8777_.1 124 40 = (M.1 124 56) := j5z8777_
                      have j8895_ : Mz8777_.1 124 43 = (M.1 124 57) := j6z8777_
                      have j8896_ : zC1 125 151 7 M Mz8777_ := j7z8777_
                      have j8897_ : zC1 126 152 7 M Mz8777_ := j8z8777_
                      have j8898_ : zC1 127 153 7 M Mz8777_ := j9z8777_
                      have j8899_ : zC1 128 154 7 M Mz8777_ := j10z8777_
                      have j8900_ : zC1 129 155 7 M Mz8777_ := j11z8777_
                      have j8901_ : zC1 131 162 7 M Mz8777_ := j12z8777_
                      have j8902_ : zC1 145 157 7 M Mz8777_ := j13z8777_
                      have j8903_ : zC1 130 156 28 M Mz8777_ := j14z8777_
                      have j8904_ : zC1 147 158 6 M Mz8777_ := (zC1_n (znp0 b8781_) j15z8777_)
                      have j8905_ : zC1 148 159 6 M Mz8777_ := (zC1_n (znp0 b8781_) j16z8777_)
                      have j8906_ : zC1 149 160 (Int32.toNatClampNeg 0) M Mz8777_ := (zC1_0 149 160 M Mz8777_)
                      have j8907_ : zC1 150 161 (Int32.toNatClampNeg 0) M Mz8777_ := (zC1_0 150 161 M Mz8777_)
                      have j8908_ : Mz8777_.1 124 37 = (M.1 124 55) := j17z8777_
                      exact hlz8849_ _ 0 Mz8777_ oz8777_ fz8777_ rfl (zr_wide (show 0 ≤ Int32.toInt 0 ∧ Int32.toInt 0 ≤ 0 from (by decide)) (by decide) (by decide)) j8889_ j8890_ j8891_ j8892_ j8893_ j8894_ j8895_ j8896_ j8897_ j8898_ j8899_ j8900_ j8901_ j8902_ j8903_ j8904_ j8905_ j8906_ j8907_ j8908_ (zhid (Nat.lt_succ_self _))
                    · have b8909_ : 0 ≤ Int32.toInt i1z8777_ ∧ Int32.toInt i1z8777_ ≤ 5 := zr_nle_r 5 c8780_ h1z8777_ (show 6 ≤ Int32.toInt 6 ∧ Int32.toInt 6 ≤ 6 from (by decide)) (by decide)
                      have b8910_ : 0 ≤ Int32.toInt (Mz8777_.1 158 (Int32.toNatClampNeg i1z8777_)) ∧ Int32.toInt (Mz8777_.1 158 (Int32.toNatClampNeg i1z8777_)) ≤ 6 := pvok_r oz8777_ 158 (Int32.toNatClampNeg i1z8777_) rfl
                      refine pw_blkw hT 8 (pc := 242) (lo := [some (pvR 124), some (pvI i1z8777_)]) (st := []) (M := pvu Mz8777_ 147 (Int32.toNatClampNeg i1z8777_) (Mz8777_.1 158 (Int32.toNatClampNeg i1z8777_))) rfl ⟨trivial, rfl, trivial, trivial, rfl, trivial, ⟨rfl, (zr_in (n := 6) b8909_ (by decide) (by decide))⟩, ⟨rfl, (zr_in (n := 6) b8909_ (by decide) (by decide))⟩, trivial⟩ (fun M8911_ e8912_ => ?_)
                      have o8913_ : pvOk M8911_ := pvok_u2 e8912_ oz8777_ rfl b8910_
                      have f8914_ : pvFr fp_eX10_undo_124 M M8911_ := pvfr_u e8912_ fz8777_ rfl
                      have b8915_ : 0 ≤ Int32.toInt (M8911_.1 159 (Int32.toNatClampNeg i1z8777_)) ∧ Int32.toInt (M8911_.1 159 (Int32.toNatClampNeg i1z8777_)) ≤ 9999 := pvok_r o8913_ 159 (Int32.toNatClampNeg i1z8777_) rfl
                      refine pw_blkw hT 8 (pc := 254) (lo := [some (pvR 124), some (pvI i1z8777_)]) (st := []) (M := pvu M8911_ 148 (Int32.toNatClampNeg i1z8777_) (M8911_.1 159 (Int32.toNatClampNeg i1z8777_))) rfl ⟨trivial, rfl, trivial, trivial, rfl, trivial, ⟨rfl, (zr_in (n := 6) b8909_ (by decide) (by decide))⟩, ⟨rfl, (zr_in (n := 6) b8909_ (by decide) (by decide))⟩, trivial⟩ (fun M8916_ e8917_ => ?_)
                      have o8918_ : pvOk M8916_ := pvok_u2 e8917_ o8913_ rfl b8915_
                      have f8919_ : pvFr fp_eX10_undo_124 M M8916_ := pvfr_u e8917_ f8914_ rfl
                      obtain ⟨q8921_, b8920_⟩ : (Int32.toInt (i1z8777_ + 1) = Int32.toInt i1z8777_ + 1) ∧ (1 ≤ Int32.toInt (i1z8777_ + 1) ∧ Int32.toInt (i1z8777_ + 1) ≤ 6) := zadd_k i1z8777_ 1 1 1 6 b8909_ (by decide) (by decide) (by decide) (by decide) (by decide)
                      refine pw_blk hT 2 (S' := (224, [some (pvR 124), some (pvI (i1z8777_ + 1))], [], M8916_)) rfl ⟨trivial, trivial, trivial⟩ ?_
                      have j8922_ : Int32.toInt (M8916_.1 124 15) = Int32.toInt (M.1 124 47) := (by have y01 : Int32.toInt (M8916_.1 124 15) = Int32.toInt (Mz8777_.1 124 15) := congrArg Int32.toInt ((pvu_n e8917_ 124 15 (Or.inl (by decide))).trans (pvu_n e8912_ 124 15 (Or.inl (by decide)))); omega)
                      have j8923_ : Int32.toInt (M8916_.1 124 3) = Int32.toInt (M.1 124 51) := (by have y01 : Int32.toInt (M8916_.1 124 3) = Int32.toInt (Mz8777_.1 124 3) := congrArg Int32.toInt ((pvu_n e8917_ 124 3 (Or.inl (by decide))).trans (pvu_n e8912_ 124 3 (Or.inl (by decide)))); omega)
                      have j8924_ : M8916_.1 124 0 = (M.1 124 48) := (((pvu_n e8917_ 124 0 (Or.inl (by decide))).trans (pvu_n e8912_ 124 0 (Or.inl (by decide)))).trans (j2z8777_))
                      have j8925_ : M8916_.1 124 3 = (M.1 124 51) := (((pvu_n e8917_ 124 3 (Or.inl (by decide))).trans (pvu_n e8912_ 124 3 (Or.inl (by decide)))).trans (j3z8777_))
                      have j8926_ : M8916_.1 124 4 = (M.1 124 52) := (((pvu_n e8917_ 124 4 (Or.inl (by decide))).trans (pvu_n e8912_ 124 4 (Or.inl (by decide)))).trans (j4z8777_))
                      have j8927_ : M8916_.1 124 40 = (M.1 124 56) := (((pvu_n e8917_ 124 40 (Or.inl (by decide))).trans (pvu_n e8912_ 124 40 (Or.inl (by decide)))).trans (j5z8777_))
                      have j8928_ : M8916_.1 124 43 = (M.1 124 57) := (((pvu_n e8917_ 124 43 (Or.inl (by decide))).trans (pvu_n e8912_ 124 43 (Or.inl (by decide)))).trans (j6z8777_))
                      have j8929_ : zC1 125 151 7 M M8916_ := (zC1_u (zC1_u j7z8777_ e8912_ (by decide)) e8917_ (by decide))
                      have j8930_ : zC1 126 152 7 M M8916_ := (zC1_u (zC1_u j8z8777_ e8912_ (by decide)) e8917_ (by decide))
                      have j8931_ : zC1 127 153 7 M M8916_ := (zC1_u (zC1_u j9z8777_ e8912_ (by decide)) e8917_ (by decide))
                      have j8932_ : zC1 128 154 7 M M8916_ := (zC1_u (zC1_u j10z8777_ e8912_ (by decide)) e8917_ (by decide))
                      have j8933_ : zC1 129 155 7 M M8916_ := (zC1_u (zC1_u j11z8777_ e8912_ (by decide)) e8917_ (by decide))
                      have j8934_ : zC1 131 162 7 M M8916_ := (zC1_u (zC1_u j12z8777_ e8912_ (by decide)) e8917_ (by decide))
                      have j8935_ : zC1 145 157 7 M M8916_ := (zC1_u (zC1_u j13z8777_ e8912_ (by decide)) e8917_ (by decide))
                      have j8936_ : zC1 130 156 28 M M8916_ := (zC1_u (zC1_u j14z8777_ e8912_ (by decide)) e8917_ (by decide))
                      have j8937_ : zC1 147 158 (Int32.toNatClampNeg (i1z8777_ + 1)) M M8916_ := (zC1_n (znp1 b8909_ (by decide) (by decide)) (zC1_u (zC1_w j15z8777_ e8912_ (fz8777_ 158 (Int32.toNatClampNeg i1z8777_) rfl)) e8917_ (by decide)))
                      have j8938_ : zC1 148 159 (Int32.toNatClampNeg (i1z8777_ + 1)) M M8916_ := (zC1_n (znp1 b8909_ (by decide) (by decide)) (zC1_w (zC1_u j16z8777_ e8912_ (by decide)) e8917_ ((pvu_n e8912_ 159 (Int32.toNatClampNeg i1z8777_) (Or.inl (by decide))).trans (fz8777_ 159 (Int32.toNatClampNeg i1z8777_) rfl))))
                      have j8939_ : M8916_.1 124 37 = (M.1 124 55) := (((pvu_n e8917_ 124 37 (Or.inl (by decide))).trans (pvu_n e8912_ 124 37 (Or.inl (by decide)))).trans (j17z8777_))
                      exact ihz8777_ (i1z8777_ + 1) M8916_ o8918_ f8919_ (((pvu_n e8917_ 124 46 (Or.inl (by decide))).trans (pvu_n e8912_ 124 46 (Or.inl (by decide)))).trans (k124_46z8777_)) (zr_wide b8920_ (by decide) (by decide)) j8922_ j8923_ j8924_ j8925_ j8926_ j8927_ j8928_ j8929_ j8930_ j8931_ j8932_ j8933_ j8934_ j8935_ j8936_ j8937_ j8938_ j8939_ (zhid (by have hm0 := zshow hmz8777_; have y01 : Int32.toInt (M8916_.1 124 15) = Int32.toInt (Mz8777_.1 124 15) := congrArg Int32.toInt ((pvu_n e8917_ 124 15 (Or.inl (by decide))).trans (pvu_n e8912_ 124 15 (Or.inl (by decide)))); have y11 : Int32.toInt (M8916_.1 124 3) = Int32.toInt (Mz8777_.1 124 3) := congrArg Int32.toInt ((pvu_n e8917_ 124 3 (Or.inl (by decide))).trans (pvu_n e8912_ 124 3 (Or.inl (by decide)))); omega))
                have u8940_ : Int32.toInt 0 = 0 := by decide
                have j8941_ : Int32.toInt (Mz8389_.1 124 15) = Int32.toInt (M.1 124 47) := (by omega)
                have j8942_ : Int32.toInt (Mz8389_.1 124 3) = Int32.toInt (M.1 124 51) := (by omega)
                have j8943_ : Mz8389_.1 124 0 = (M.1 124 48) := j2z8389_
                have j8944_ : Mz8389_.1 124 3 = (M.1 124 51) := j3z8389_
                have j8945_ : Mz8389_.1 124 4 = (M.1 124 52) := j4z8389_
                have j8946_ : Mz8389_.1 124 40 = (M.1 124 56) := j5z8389_
                have j8947_ : Mz8389_.1 124 43 = (M.1 124 57) := j6z8389_
                have j8948_ : zC1 125 151 7 M Mz8389_ := j7z8389_
                have j8949_ : zC1 126 152 7 M Mz8389_ := j8z8389_
                have j8950_ : zC1 127 153 7 M Mz8389_ := j9z8389_
                have j8951_ : zC1 128 154 7 M Mz8389_ := j10z8389_
                have j8952_ : zC1 129 155 7 M Mz8389_ := j11z8389_
                have j8953_ : zC1 131 162 7 M Mz8389_ := j12z8389_
                have j8954_ : zC1 145 157 7 M Mz8389_ := j13z8389_
                have j8955_ : zC1 130 156 28 M Mz8389_ := (zC1_n (znp0 b8393_) j14z8389_)
                have j8956_ : zC1 147 158 (Int32.toNatClampNeg 0) M Mz8389_ := (zC1_0 147 158 M Mz8389_)
                have j8957_ : zC1 148 159 (Int32.toNatClampNeg 0) M Mz8389_ := (zC1_0 148 159 M Mz8389_)
                have j8958_ : Mz8389_.1 124 37 = (M.1 124 55) := j15z8389_
                exact hlz8777_ _ 0 Mz8389_ oz8389_ fz8389_ rfl (zr_wide (show 0 ≤ Int32.toInt 0 ∧ Int32.toInt 0 ≤ 0 from (by decide)) (by decide) (by decide)) j8941_ j8942_ j8943_ j8944_ j8945_ j8946_ j8947_ j8948_ j8949_ j8950_ j8951_ j8952_ j8953_ j8954_ j8955_ j8956_ j8957_ j8958_ (zhid (Nat.lt_succ_self _))
              · have b8959_ : 0 ≤ Int32.toInt i1z8389_ ∧ Int32.toInt i1z8389_ ≤ 27 := zr_nle_r 27 c8392_ h1z8389_ (show 28 ≤ Int32.toInt 28 ∧ Int32.toInt 28 ≤ 28 from (by decide)) (by decide)
                have b8960_ : 0 ≤ Int32.toInt (Mz8389_.1 156 (Int32.toNatClampNeg i1z8389_)) ∧ Int32.toInt (Mz8389_.1 156 (Int32.toNatClampNeg i1z8389_)) ≤ 9 := pvok_r oz8389_ 156 (Int32.toNatClampNeg i1z8389_) rfl
                refine pw_blkw hT 8 (pc := 216) (lo := [some (pvR 124), some (pvI i1z8389_)]) (st := []) (M := pvu Mz8389_ 130 (Int32.toNatClampNeg i1z8389_) (Mz8389_.1 156 (Int32.toNatClampNeg i1z8389_))) rfl ⟨trivial, rfl, trivial, trivial, rfl, trivial, ⟨rfl, (zr_in (n := 28) b8959_ (by decide) (by decide))⟩, ⟨rfl, (zr_in (n := 28) b8959_ (by decide) (by decide))⟩, trivial⟩ (fun M8961_ e8962_ => ?_)
                have o8963_ : pvOk M8961_ := pvok_u2 e8962_ oz8389_ rfl b8960_
                have f8964_ : pvFr fp_eX10_undo_124 M M8961_ := pvfr_u e8962_ fz8389_ rfl
                obtain ⟨q8966_, b8965_⟩ : (Int32.toInt (i1z8389_ + 1) = Int32.toInt i1z8389_ + 1) ∧ (1 ≤ Int32.toInt (i1z8389_ + 1) ∧ Int32.toInt (i1z8389_ + 1) ≤ 28) := zadd_k i1z8389_ 1 1 1 28 b8959_ (by decide) (by decide) (by decide) (by decide) (by decide)
                refine pw_blk hT 2 (S' := (198, [some (pvR 124), some (pvI (i1z8389_ + 1))], [], M8961_)) rfl ⟨trivial, trivial, trivial⟩ ?_
                have j8967_ : Int32.toInt (M8961_.1 124 15) = Int32.toInt (M.1 124 47) := (by have y01 : Int32.toInt (M8961_.1 124 15) = Int32.toInt (Mz8389_.1 124 15) := congrArg Int32.toInt (pvu_n e8962_ 124 15 (Or.inl (by decide))); omega)
                have j8968_ : Int32.toInt (M8961_.1 124 3) = Int32.toInt (M.1 124 51) := (by have y01 : Int32.toInt (M8961_.1 124 3) = Int32.toInt (Mz8389_.1 124 3) := congrArg Int32.toInt (pvu_n e8962_ 124 3 (Or.inl (by decide))); omega)
                have j8969_ : M8961_.1 124 0 = (M.1 124 48) := ((pvu_n e8962_ 124 0 (Or.inl (by decide))).trans (j2z8389_))
                have j8970_ : M8961_.1 124 3 = (M.1 124 51) := ((pvu_n e8962_ 124 3 (Or.inl (by decide))).trans (j3z8389_))
                have j8971_ : M8961_.1 124 4 = (M.1 124 52) := ((pvu_n e8962_ 124 4 (Or.inl (by decide))).trans (j4z8389_))
                have j8972_ : M8961_.1 124 40 = (M.1 124 56) := ((pvu_n e8962_ 124 40 (Or.inl (by decide))).trans (j5z8389_))
                have j8973_ : M8961_.1 124 43 = (M.1 124 57) := ((pvu_n e8962_ 124 43 (Or.inl (by decide))).trans (j6z8389_))
                have j8974_ : zC1 125 151 7 M M8961_ := (zC1_u j7z8389_ e8962_ (by decide))
                have j8975_ : zC1 126 152 7 M M8961_ := (zC1_u j8z8389_ e8962_ (by decide))
                have j8976_ : zC1 127 153 7 M M8961_ := (zC1_u j9z8389_ e8962_ (by decide))
                have j8977_ : zC1 128 154 7 M M8961_ := (zC1_u j10z8389_ e8962_ (by decide))
                have j8978_ : zC1 129 155 7 M M8961_ := (zC1_u j11z8389_ e8962_ (by decide))
                have j8979_ : zC1 131 162 7 M M8961_ := (zC1_u j12z8389_ e8962_ (by decide))
                have j8980_ : zC1 145 157 7 M M8961_ := (zC1_u j13z8389_ e8962_ (by decide))
                have j8981_ : zC1 130 156 (Int32.toNatClampNeg (i1z8389_ + 1)) M M8961_ := (zC1_n (znp1 b8959_ (by decide) (by decide)) (zC1_w j14z8389_ e8962_ (fz8389_ 156 (Int32.toNatClampNeg i1z8389_) rfl)))
                have j8982_ : M8961_.1 124 37 = (M.1 124 55) := ((pvu_n e8962_ 124 37 (Or.inl (by decide))).trans (j15z8389_))
                exact ihz8389_ (i1z8389_ + 1) M8961_ o8963_ f8964_ ((pvu_n e8962_ 124 46 (Or.inl (by decide))).trans (k124_46z8389_)) (zr_wide b8965_ (by decide) (by decide)) j8967_ j8968_ j8969_ j8970_ j8971_ j8972_ j8973_ j8974_ j8975_ j8976_ j8977_ j8978_ j8979_ j8980_ j8981_ j8982_ (zhid (by have hm0 := zshow hmz8389_; have y01 : Int32.toInt (M8961_.1 124 15) = Int32.toInt (Mz8389_.1 124 15) := congrArg Int32.toInt (pvu_n e8962_ 124 15 (Or.inl (by decide))); have y11 : Int32.toInt (M8961_.1 124 3) = Int32.toInt (Mz8389_.1 124 3) := congrArg Int32.toInt (pvu_n e8962_ 124 3 (Or.inl (by decide))); omega))
          have u8983_ : Int32.toInt 0 = 0 := by decide
          have j8984_ : Int32.toInt (Mz6761_.1 124 15) = Int32.toInt (M.1 124 47) := (by omega)
          have j8985_ : Int32.toInt (Mz6761_.1 124 3) = Int32.toInt (M.1 124 51) := (by omega)
          have j8986_ : Mz6761_.1 124 0 = (M.1 124 48) := j2z6761_
          have j8987_ : Mz6761_.1 124 3 = (M.1 124 51) := j3z6761_
          have j8988_ : Mz6761_.1 124 4 = (M.1 124 52) := j4z6761_
          have j8989_ : Mz6761_.1 124 40 = (M.1 124 56) := j5z6761_
          have j8990_ : Mz6761_.1 124 43 = (M.1 124 57) := j6z6761_
          have j8991_ : zC1 125 151 7 M Mz6761_ := (zC1_n (znp0 b6765_) j7z6761_)
          have j8992_ : zC1 126 152 7 M Mz6761_ := (zC1_n (znp0 b6765_) j8z6761_)
          have j8993_ : zC1 127 153 7 M Mz6761_ := (zC1_n (znp0 b6765_) j9z6761_)
          have j8994_ : zC1 128 154 7 M Mz6761_ := (zC1_n (znp0 b6765_) j10z6761_)
          have j8995_ : zC1 129 155 7 M Mz6761_ := (zC1_n (znp0 b6765_) j11z6761_)
          have j8996_ : zC1 131 162 7 M Mz6761_ := (zC1_n (znp0 b6765_) j12z6761_)
          have j8997_ : zC1 145 157 7 M Mz6761_ := (zC1_n (znp0 b6765_) j13z6761_)
          have j8998_ : zC1 130 156 (Int32.toNatClampNeg 0) M Mz6761_ := (zC1_0 130 156 M Mz6761_)
          have j8999_ : Mz6761_.1 124 37 = (M.1 124 55) := j14z6761_
          exact hlz8389_ _ 0 Mz6761_ oz6761_ fz6761_ rfl (zr_wide (show 0 ≤ Int32.toInt 0 ∧ Int32.toInt 0 ≤ 0 from (by decide)) (by decide) (by decide)) j8984_ j8985_ j8986_ j8987_ j8988_ j8989_ j8990_ j8991_ j8992_ j8993_ j8994_ j8995_ j8996_ j8997_ j8998_ j8999_ (zhid (Nat.lt_succ_self _))
        · have b9000_ : 0 ≤ Int32.toInt i1z6761_ ∧ Int32.toInt i1z6761_ ≤ 6 := zr_nle_r 6 c6764_ h1z6761_ (show 7 ≤ Int32.toInt 7 ∧ Int32.toInt 7 ≤ 7 from (by decide)) (by decide)
          have b9001_ : 0 ≤ Int32.toInt (Mz6761_.1 151 (Int32.toNatClampNeg i1z6761_)) ∧ Int32.toInt (Mz6761_.1 151 (Int32.toNatClampNeg i1z6761_)) ≤ 6 := pvok_r oz6761_ 151 (Int32.toNatClampNeg i1z6761_) rfl
          refine pw_blkw hT 8 (pc := 118) (lo := [some (pvR 124), some (pvI i1z6761_)]) (st := []) (M := pvu Mz6761_ 125 (Int32.toNatClampNeg i1z6761_) (Mz6761_.1 151 (Int32.toNatClampNeg i1z6761_))) rfl ⟨trivial, rfl, trivial, trivial, rfl, trivial, ⟨rfl, (zr_in (n := 7) b9000_ (by decide) (by decide))⟩, ⟨rfl, (zr_in (n := 7) b9000_ (by decide) (by decide))⟩, trivial⟩ (fun M9002_ e9003_ => ?_)
          have o9004_ : pvOk M9002_ := pvok_u2 e9003_ oz6761_ rfl b9001_
          have f9005_ : pvFr fp_eX10_undo_124 M M9002_ := pvfr_u e9003_ fz6761_ rfl
          have b9006_ : 0 ≤ Int32.toInt (M9002_.1 152 (Int32.toNatClampNeg i1z6761_)) ∧ Int32.toInt (M9002_.1 152 (Int32.toNatClampNeg i1z6761_)) ≤ 9 := pvok_r o9004_ 152 (Int32.toNatClampNeg i1z6761_) rfl
          refine pw_blkw hT 8 (pc := 130) (lo := [some (pvR 124), some (pvI i1z6761_)]) (st := []) (M := pvu M9002_ 126 (Int32.toNatClampNeg i1z6761_) (M9002_.1 152 (Int32.toNatClampNeg i1z6761_))) rfl ⟨trivial, rfl, trivial, trivial, rfl, trivial, ⟨rfl, (zr_in (n := 7) b9000_ (by decide) (by decide))⟩, ⟨rfl, (zr_in (n := 7) b9000_ (by decide) (by decide))⟩, trivial⟩ (fun M9007_ e9008_ => ?_)
          have o9009_ : pvOk M9007_ := pvok_u2 e9008_ o9004_ rfl b9006_
          have f9010_ : pvFr fp_eX10_undo_124 M M9007_ := pvfr_u e9008_ f9005_ rfl
          have b9011_ : 0 ≤ Int32.toInt (M9007_.1 153 (Int32.toNatClampNeg i1z6761_)) ∧ Int32.toInt (M9007_.1 153 (Int32.toNatClampNeg i1z6761_)) ≤ 3 := pvok_r o9009_ 153 (Int32.toNatClampNeg i1z6761_) rfl
          refine pw_blkw hT 8 (pc := 142) (lo := [some (pvR 124), some (pvI i1z6761_)]) (st := []) (M := pvu M9007_ 127 (Int32.toNatClampNeg i1z6761_) (M9007_.1 153 (Int32.toNatClampNeg i1z6761_))) rfl ⟨trivial, rfl, trivial, trivial, rfl, trivial, ⟨rfl, (zr_in (n := 7) b9000_ (by decide) (by decide))⟩, ⟨rfl, (zr_in (n := 7) b9000_ (by decide) (by decide))⟩, trivial⟩ (fun M9012_ e9013_ => ?_)
          have o9014_ : pvOk M9012_ := pvok_u2 e9013_ o9009_ rfl b9011_
          have f9015_ : pvFr fp_eX10_undo_124 M M9012_ := pvfr_u e9013_ f9010_ rfl
          have b9016_ : 0 ≤ Int32.toInt (M9012_.1 154 (Int32.toNatClampNeg i1z6761_)) ∧ Int32.toInt (M9012_.1 154 (Int32.toNatClampNeg i1z6761_)) ≤ 4 := pvok_r o9014_ 154 (Int32.toNatClampNeg i1z6761_) rfl
          refine pw_blkw hT 8 (pc := 154) (lo := [some (pvR 124), some (pvI i1z6761_)]) (st := []) (M := pvu M9012_ 128 (Int32.toNatClampNeg i1z6761_) (M9012_.1 154 (Int32.toNatClampNeg i1z6761_))) rfl ⟨trivial, rfl, trivial, trivial, rfl, trivial, ⟨rfl, (zr_in (n := 7) b9000_ (by decide) (by decide))⟩, ⟨rfl, (zr_in (n := 7) b9000_ (by decide) (by decide))⟩, trivial⟩ (fun M9017_ e9018_ => ?_)
          have o9019_ : pvOk M9017_ := pvok_u2 e9018_ o9014_ rfl b9016_
          have f9020_ : pvFr fp_eX10_undo_124 M M9017_ := pvfr_u e9018_ f9015_ rfl
          have b9021_ : 0 ≤ Int32.toInt (M9017_.1 155 (Int32.toNatClampNeg i1z6761_)) ∧ Int32.toInt (M9017_.1 155 (Int32.toNatClampNeg i1z6761_)) ≤ 9 := pvok_r o9019_ 155 (Int32.toNatClampNeg i1z6761_) rfl
          refine pw_blkw hT 8 (pc := 166) (lo := [some (pvR 124), some (pvI i1z6761_)]) (st := []) (M := pvu M9017_ 129 (Int32.toNatClampNeg i1z6761_) (M9017_.1 155 (Int32.toNatClampNeg i1z6761_))) rfl ⟨trivial, rfl, trivial, trivial, rfl, trivial, ⟨rfl, (zr_in (n := 7) b9000_ (by decide) (by decide))⟩, ⟨rfl, (zr_in (n := 7) b9000_ (by decide) (by decide))⟩, trivial⟩ (fun M9022_ e9023_ => ?_)
          have o9024_ : pvOk M9022_ := pvok_u2 e9023_ o9019_ rfl b9021_
          have f9025_ : pvFr fp_eX10_undo_124 M M9022_ := pvfr_u e9023_ f9020_ rfl
          have b9026_ : 0 ≤ Int32.toInt (M9022_.1 162 (Int32.toNatClampNeg i1z6761_)) ∧ Int32.toInt (M9022_.1 162 (Int32.toNatClampNeg i1z6761_)) ≤ 1 := pvok_r o9024_ 162 (Int32.toNatClampNeg i1z6761_) rfl
          refine pw_blkw hT 8 (pc := 178) (lo := [some (pvR 124), some (pvI i1z6761_)]) (st := []) (M := pvu M9022_ 131 (Int32.toNatClampNeg i1z6761_) (vp_nar .boolean (M9022_.1 162 (Int32.toNatClampNeg i1z6761_)))) rfl ⟨trivial, rfl, trivial, trivial, rfl, trivial, ⟨rfl, (zr_in (n := 7) b9000_ (by decide) (by decide))⟩, ⟨rfl, (zr_in (n := 7) b9000_ (by decide) (by decide))⟩, trivial⟩ (fun M9027_ e9028_ => ?_)
          have o9029_ : pvOk M9027_ := pvok_u2 e9028_ o9024_ rfl (zboolr (M9022_.1 162 (Int32.toNatClampNeg i1z6761_)))
          have f9030_ : pvFr fp_eX10_undo_124 M M9027_ := pvfr_u e9028_ f9025_ rfl
          have b9031_ : 0 ≤ Int32.toInt (M9027_.1 157 (Int32.toNatClampNeg i1z6761_)) ∧ Int32.toInt (M9027_.1 157 (Int32.toNatClampNeg i1z6761_)) ≤ 6 := pvok_r o9029_ 157 (Int32.toNatClampNeg i1z6761_) rfl
          refine pw_blkw hT 8 (pc := 190) (lo := [some (pvR 124), some (pvI i1z6761_)]) (st := []) (M := pvu M9027_ 145 (Int32.toNatClampNeg i1z6761_) (M9027_.1 157 (Int32.toNatClampNeg i1z6761_))) rfl ⟨trivial, rfl, trivial, trivial, rfl, trivial, ⟨rfl, (zr_in (n := 7) b9000_ (by decide) (by decide))⟩, ⟨rfl, (zr_in (n := 7) b9000_ (by decide) (by decide))⟩, trivial⟩ (fun M9032_ e9033_ => ?_)
          have o9034_ : pvOk M9032_ := pvok_u2 e9033_ o9029_ rfl b9031_
          have f9035_ : pvFr fp_eX10_undo_124 M M9032_ := pvfr_u e9033_ f9030_ rfl
          obtain ⟨q9037_, b9036_⟩ : (Int32.toInt (i1z6761_ + 1) = Int32.toInt i1z6761_ + 1) ∧ (1 ≤ Int32.toInt (i1z6761_ + 1) ∧ Int32.toInt (i1z6761_ + 1) ≤ 7) := zadd_k i1z6761_ 1 1 1 7 b9000_ (by decide) (by decide) (by decide) (by decide) (by decide)
          refine pw_blk hT 2 (S' := (100, [some (pvR 124), some (pvI (i1z6761_ + 1))], [], M9032_)) rfl ⟨trivial, trivial, trivial⟩ ?_
          have j9038_ : Int32.toInt (M9032_.1 124 15) = Int32.toInt (M.1 124 47) := (by have y01 : Int32.toInt (M9032_.1 124 15) = Int32.toInt (Mz6761_.1 124 15) := congrArg Int32.toInt (((((((pvu_n e9033_ 124 15 (Or.inl (by decide))).trans (pvu_n e9028_ 124 15 (Or.inl (by decide)))).trans (pvu_n e9023_ 124 15 (Or.inl (by decide)))).trans (pvu_n e9018_ 124 15 (Or.inl (by decide)))).trans (pvu_n e9013_ 124 15 (Or.inl (by decide)))).trans (pvu_n e9008_ 124 15 (Or.inl (by decide)))).trans (pvu_n e9003_ 124 15 (Or.inl (by decide)))); omega)
          have j9039_ : Int32.toInt (M9032_.1 124 3) = Int32.toInt (M.1 124 51) := (by have y01 : Int32.toInt (M9032_.1 124 3) = Int32.toInt (Mz6761_.1 124 3) := congrArg Int32.toInt (((((((pvu_n e9033_ 124 3 (Or.inl (by decide))).trans (pvu_n e9028_ 124 3 (Or.inl (by decide)))).trans (pvu_n e9023_ 124 3 (Or.inl (by decide)))).trans (pvu_n e9018_ 124 3 (Or.inl (by decide)))).trans (pvu_n e9013_ 124 3 (Or.inl (by decide)))).trans (pvu_n e9008_ 124 3 (Or.inl (by decide)))).trans (pvu_n e9003_ 124 3 (Or.inl (by decide)))); omega)
          have j9040_ : M9032_.1 124 0 = (M.1 124 48) := ((((((((pvu_n e9033_ 124 0 (Or.inl (by decide))).trans (pvu_n e9028_ 124 0 (Or.inl (by decide)))).trans (pvu_n e9023_ 124 0 (Or.inl (by decide)))).trans (pvu_n e9018_ 124 0 (Or.inl (by decide)))).trans (pvu_n e9013_ 124 0 (Or.inl (by decide)))).trans (pvu_n e9008_ 124 0 (Or.inl (by decide)))).trans (pvu_n e9003_ 124 0 (Or.inl (by decide)))).trans (j2z6761_))
          have j9041_ : M9032_.1 124 3 = (M.1 124 51) := ((((((((pvu_n e9033_ 124 3 (Or.inl (by decide))).trans (pvu_n e9028_ 124 3 (Or.inl (by decide)))).trans (pvu_n e9023_ 124 3 (Or.inl (by decide)))).trans (pvu_n e9018_ 124 3 (Or.inl (by decide)))).trans (pvu_n e9013_ 124 3 (Or.inl (by decide)))).trans (pvu_n e9008_ 124 3 (Or.inl (by decide)))).trans (pvu_n e9003_ 124 3 (Or.inl (by decide)))).trans (j3z6761_))
          have j9042_ : M9032_.1 124 4 = (M.1 124 52) := ((((((((pvu_n e9033_ 124 4 (Or.inl (by decide))).trans (pvu_n e9028_ 124 4 (Or.inl (by decide)))).trans (pvu_n e9023_ 124 4 (Or.inl (by decide)))).trans (pvu_n e9018_ 124 4 (Or.inl (by decide)))).trans (pvu_n e9013_ 124 4 (Or.inl (by decide)))).trans (pvu_n e9008_ 124 4 (Or.inl (by decide)))).trans (pvu_n e9003_ 124 4 (Or.inl (by decide)))).trans (j4z6761_))
          have j9043_ : M9032_.1 124 40 = (M.1 124 56) := ((((((((pvu_n e9033_ 124 40 (Or.inl (by decide))).trans (pvu_n e9028_ 124 40 (Or.inl (by decide)))).trans (pvu_n e9023_ 124 40 (Or.inl (by decide)))).trans (pvu_n e9018_ 124 40 (Or.inl (by decide)))).trans (pvu_n e9013_ 124 40 (Or.inl (by decide)))).trans (pvu_n e9008_ 124 40 (Or.inl (by decide)))).trans (pvu_n e9003_ 124 40 (Or.inl (by decide)))).trans (j5z6761_))
          have j9044_ : M9032_.1 124 43 = (M.1 124 57) := ((((((((pvu_n e9033_ 124 43 (Or.inl (by decide))).trans (pvu_n e9028_ 124 43 (Or.inl (by decide)))).trans (pvu_n e9023_ 124 43 (Or.inl (by decide)))).trans (pvu_n e9018_ 124 43 (Or.inl (by decide)))).trans (pvu_n e9013_ 124 43 (Or.inl (by decide)))).trans (pvu_n e9008_ 124 43 (Or.inl (by decide)))).trans (pvu_n e9003_ 124 43 (Or.inl (by decide)))).trans (j6z6761_))
          have j9045_ : zC1 125 151 (Int32.toNatClampNeg (i1z6761_ + 1)) M M9032_ := (zC1_n (znp1 b9000_ (by decide) (by decide)) (zC1_u (zC1_u (zC1_u (zC1_u (zC1_u (zC1_u (zC1_w j7z6761_ e9003_ (fz6761_ 151 (Int32.toNatClampNeg i1z6761_) rfl)) e9008_ (by decide)) e9013_ (by decide)) e9018_ (by decide)) e9023_ (by decide)) e9028_ (by decide)) e9033_ (by decide)))
          have j9046_ : zC1 126 152 (Int32.toNatClampNeg (i1z6761_ + 1)) M M9032_ := (zC1_n (znp1 b9000_ (by decide) (by decide)) (zC1_u (zC1_u (zC1_u (zC1_u (zC1_u (zC1_w (zC1_u j8z6761_ e9003_ (by decide)) e9008_ ((pvu_n e9003_ 152 (Int32.toNatClampNeg i1z6761_) (Or.inl (by decide))).trans (fz6761_ 152 (Int32.toNatClampNeg i1z6761_) rfl))) e9013_ (by decide)) e9018_ (by decide)) e9023_ (by decide)) e9028_ (by decide)) e9033_ (by decide)))
          have j9047_ : zC1 127 153 (Int32.toNatClampNeg (i1z6761_ + 1)) M M9032_ := (zC1_n (znp1 b9000_ (by decide) (by decide)) (zC1_u (zC1_u (zC1_u (zC1_u (zC1_w (zC1_u (zC1_u j9z6761_ e9003_ (by decide)) e9008_ (by decide)) e9013_ (((pvu_n e9008_ 153 (Int32.toNatClampNeg i1z6761_) (Or.inl (by decide))).trans (pvu_n e9003_ 153 (Int32.toNatClampNeg i1z6761_) (Or.inl (by decide)))).trans (fz6761_ 153 (Int32.toNatClampNeg i1z6761_) rfl))) e9018_ (by decide)) e9023_ (by decide)) e9028_ (by decide)) e9033_ (by decide)))
          have j9048_ : zC1 128 154 (Int32.toNatClampNeg (i1z6761_ + 1)) M M9032_ := (zC1_n (znp1 b9000_ (by decide) (by decide)) (zC1_u (zC1_u (zC1_u (zC1_w (zC1_u (zC1_u (zC1_u j10z6761_ e9003_ (by decide)) e9008_ (by decide)) e9013_ (by decide)) e9018_ ((((pvu_n e9013_ 154 (Int32.toNatClampNeg i1z6761_) (Or.inl (by decide))).trans (pvu_n e9008_ 154 (Int32.toNatClampNeg i1z6761_) (Or.inl (by decide)))).trans (pvu_n e9003_ 154 (Int32.toNatClampNeg i1z6761_) (Or.inl (by decide)))).trans (fz6761_ 154 (Int32.toNatClampNeg i1z6761_) rfl))) e9023_ (by decide)) e9028_ (by decide)) e9033_ (by decide)))
          have j9049_ : zC1 129 155 (Int32.toNatClampNeg (i1z6761_ + 1)) M M9032_ := (zC1_n (znp1 b9000_ (by decide) (by decide)) (zC1_u (zC1_u (zC1_w (zC1_u (zC1_u (zC1_u (zC1_u j11z6761_ e9003_ (by decide)) e9008_ (by decide)) e9013_ (by decide)) e9018_ (by decide)) e9023_ (((((pvu_n e9018_ 155 (Int32.toNatClampNeg i1z6761_) (Or.inl (by decide))).trans (pvu_n e9013_ 155 (Int32.toNatClampNeg i1z6761_) (Or.inl (by decide)))).trans (pvu_n e9008_ 155 (Int32.toNatClampNeg i1z6761_) (Or.inl (by decide)))).trans (pvu_n e9003_ 155 (Int32.toNatClampNeg i1z6761_) (Or.inl (by decide)))).trans (fz6761_ 155 (Int32.toNatClampNeg i1z6761_) rfl))) e9028_ (by decide)) e9033_ (by decide)))
          have j9050_ : zC1 131 162 (Int32.toNatClampNeg (i1z6761_ + 1)) M M9032_ := (zC1_n (znp1 b9000_ (by decide) (by decide)) (zC1_u (zC1_w (zC1_u (zC1_u (zC1_u (zC1_u (zC1_u j12z6761_ e9003_ (by decide)) e9008_ (by decide)) e9013_ (by decide)) e9018_ (by decide)) e9023_ (by decide)) e9028_ ((zvnar b9026_).trans ((((((pvu_n e9023_ 162 (Int32.toNatClampNeg i1z6761_) (Or.inl (by decide))).trans (pvu_n e9018_ 162 (Int32.toNatClampNeg i1z6761_) (Or.inl (by decide)))).trans (pvu_n e9013_ 162 (Int32.toNatClampNeg i1z6761_) (Or.inl (by decide)))).trans (pvu_n e9008_ 162 (Int32.toNatClampNeg i1z6761_) (Or.inl (by decide)))).trans (pvu_n e9003_ 162 (Int32.toNatClampNeg i1z6761_) (Or.inl (by decide)))).trans (fz6761_ 162 (Int32.toNatClampNeg i1z6761_) rfl)))) e9033_ (by decide)))
          have j9051_ : zC1 145 157 (Int32.toNatClampNeg (i1z6761_ + 1)) M M9032_ := (zC1_n (znp1 b9000_ (by decide) (by decide)) (zC1_w (zC1_u (zC1_u (zC1_u (zC1_u (zC1_u (zC1_u j13z6761_ e9003_ (by decide)) e9008_ (by decide)) e9013_ (by decide)) e9018_ (by decide)) e9023_ (by decide)) e9028_ (by decide)) e9033_ (((((((pvu_n e9028_ 157 (Int32.toNatClampNeg i1z6761_) (Or.inl (by decide))).trans (pvu_n e9023_ 157 (Int32.toNatClampNeg i1z6761_) (Or.inl (by decide)))).trans (pvu_n e9018_ 157 (Int32.toNatClampNeg i1z6761_) (Or.inl (by decide)))).trans (pvu_n e9013_ 157 (Int32.toNatClampNeg i1z6761_) (Or.inl (by decide)))).trans (pvu_n e9008_ 157 (Int32.toNatClampNeg i1z6761_) (Or.inl (by decide)))).trans (pvu_n e9003_ 157 (Int32.toNatClampNeg i1z6761_) (Or.inl (by decide)))).trans (fz6761_ 157 (Int32.toNatClampNeg i1z6761_) rfl))))
          have j9052_ : M9032_.1 124 37 = (M.1 124 55) := ((((((((pvu_n e9033_ 124 37 (Or.inl (by decide))).trans (pvu_n e9028_ 124 37 (Or.inl (by decide)))).trans (pvu_n e9023_ 124 37 (Or.inl (by decide)))).trans (pvu_n e9018_ 124 37 (Or.inl (by decide)))).trans (pvu_n e9013_ 124 37 (Or.inl (by decide)))).trans (pvu_n e9008_ 124 37 (Or.inl (by decide)))).trans (pvu_n e9003_ 124 37 (Or.inl (by decide)))).trans (j14z6761_))
          exact ihz6761_ (i1z6761_ + 1) M9032_ o9034_ f9035_ ((((((((pvu_n e9033_ 124 46 (Or.inl (by decide))).trans (pvu_n e9028_ 124 46 (Or.inl (by decide)))).trans (pvu_n e9023_ 124 46 (Or.inl (by decide)))).trans (pvu_n e9018_ 124 46 (Or.inl (by decide)))).trans (pvu_n e9013_ 124 46 (Or.inl (by decide)))).trans (pvu_n e9008_ 124 46 (Or.inl (by decide)))).trans (pvu_n e9003_ 124 46 (Or.inl (by decide)))).trans (k124_46z6761_)) (zr_wide b9036_ (by decide) (by decide)) j9038_ j9039_ j9040_ j9041_ j9042_ j9043_ j9044_ j9045_ j9046_ j9047_ j9048_ j9049_ j9050_ j9051_ j9052_ (zhid (by have hm0 := zshow hmz6761_; have y01 : Int32.toInt (M9032_.1 124 15) = Int32.toInt (Mz6761_.1 124 15) := congrArg Int32.toInt (((((((pvu_n e9033_ 124 15 (Or.inl (by decide))).trans (pvu_n e9028_ 124 15 (Or.inl (by decide)))).trans (pvu_n e9023_ 124 15 (Or.inl (by decide)))).trans (pvu_n e9018_ 124 15 (Or.inl (by decide)))).trans (pvu_n e9013_ 124 15 (Or.inl (by decide)))).trans (pvu_n e9008_ 124 15 (Or.inl (by decide)))).trans (pvu_n e9003_ 124 15 (Or.inl (by decide)))); have y11 : Int32.toInt (M9032_.1 124 3) = Int32.toInt (Mz6761_.1 124 3) := congrArg Int32.toInt (((((((pvu_n e9033_ 124 3 (Or.inl (by decide))).trans (pvu_n e9028_ 124 3 (Or.inl (by decide)))).trans (pvu_n e9023_ 124 3 (Or.inl (by decide)))).trans (pvu_n e9018_ 124 3 (Or.inl (by decide)))).trans (pvu_n e9013_ 124 3 (Or.inl (by decide)))).trans (pvu_n e9008_ 124 3 (Or.inl (by decide)))).trans (pvu_n e9003_ 124 3 (Or.inl (by decide)))); omega))
    have u9053_ : Int32.toInt 0 = 0 := by decide
    have j9054_ : Int32.toInt (M55_.1 124 15) = Int32.toInt (M.1 124 47) := (by have z1 : Int32.toInt (M55_.1 124 15) = Int32.toInt (M.1 124 47) := congrArg Int32.toInt (((((((((((pvu_n e56_ 124 15 (Or.inr (by decide))).trans (pvu_n e51_ 124 15 (Or.inr (by decide)))).trans (pvu_n e46_ 124 15 (Or.inr (by decide)))).trans (pvu_n e41_ 124 15 (Or.inr (by decide)))).trans (pvu_n e36_ 124 15 (Or.inr (by decide)))).trans (pvu_n e31_ 124 15 (Or.inr (by decide)))).trans (pvu_n e26_ 124 15 (Or.inr (by decide)))).trans (pvu_n e21_ 124 15 (Or.inr (by decide)))).trans (pvu_n e16_ 124 15 (Or.inr (by decide)))).trans (pvu_n e11_ 124 15 (Or.inr (by decide)))).trans (pvu_s e6_)); omega)
    have j9055_ : Int32.toInt (M55_.1 124 3) = Int32.toInt (M.1 124 51) := (by have z1 : Int32.toInt (M55_.1 124 3) = Int32.toInt (M20_.1 124 51) := congrArg Int32.toInt (((((((pvu_n e56_ 124 3 (Or.inr (by decide))).trans (pvu_n e51_ 124 3 (Or.inr (by decide)))).trans (pvu_n e46_ 124 3 (Or.inr (by decide)))).trans (pvu_n e41_ 124 3 (Or.inr (by decide)))).trans (pvu_n e36_ 124 3 (Or.inr (by decide)))).trans (pvu_n e31_ 124 3 (Or.inr (by decide)))).trans (pvu_s e26_)); have z2 : Int32.toInt (M20_.1 124 51) = Int32.toInt (M.1 124 51) := congrArg Int32.toInt ((((pvu_n e21_ 124 51 (Or.inr (by decide))).trans (pvu_n e16_ 124 51 (Or.inr (by decide)))).trans (pvu_n e11_ 124 51 (Or.inr (by decide)))).trans (pvu_n e6_ 124 51 (Or.inr (by decide)))); omega)
    have j9056_ : M55_.1 124 0 = (M.1 124 48) := (((((((((((pvu_n e56_ 124 0 (Or.inr (by decide))).trans (pvu_n e51_ 124 0 (Or.inr (by decide)))).trans (pvu_n e46_ 124 0 (Or.inr (by decide)))).trans (pvu_n e41_ 124 0 (Or.inr (by decide)))).trans (pvu_n e36_ 124 0 (Or.inr (by decide)))).trans (pvu_n e31_ 124 0 (Or.inr (by decide)))).trans (pvu_n e26_ 124 0 (Or.inr (by decide)))).trans (pvu_n e21_ 124 0 (Or.inr (by decide)))).trans (pvu_n e16_ 124 0 (Or.inr (by decide)))).trans (pvu_s e11_)).trans (pvu_n e6_ 124 48 (Or.inr (by decide))))
    have j9057_ : M55_.1 124 3 = (M.1 124 51) := ((((((((pvu_n e56_ 124 3 (Or.inr (by decide))).trans (pvu_n e51_ 124 3 (Or.inr (by decide)))).trans (pvu_n e46_ 124 3 (Or.inr (by decide)))).trans (pvu_n e41_ 124 3 (Or.inr (by decide)))).trans (pvu_n e36_ 124 3 (Or.inr (by decide)))).trans (pvu_n e31_ 124 3 (Or.inr (by decide)))).trans (pvu_s e26_)).trans ((((pvu_n e21_ 124 51 (Or.inr (by decide))).trans (pvu_n e16_ 124 51 (Or.inr (by decide)))).trans (pvu_n e11_ 124 51 (Or.inr (by decide)))).trans (pvu_n e6_ 124 51 (Or.inr (by decide)))))
    have j9058_ : M55_.1 124 4 = (M.1 124 52) := (((((((pvu_n e56_ 124 4 (Or.inr (by decide))).trans (pvu_n e51_ 124 4 (Or.inr (by decide)))).trans (pvu_n e46_ 124 4 (Or.inr (by decide)))).trans (pvu_n e41_ 124 4 (Or.inr (by decide)))).trans (pvu_n e36_ 124 4 (Or.inr (by decide)))).trans (pvu_s e31_)).trans (((((pvu_n e26_ 124 52 (Or.inr (by decide))).trans (pvu_n e21_ 124 52 (Or.inr (by decide)))).trans (pvu_n e16_ 124 52 (Or.inr (by decide)))).trans (pvu_n e11_ 124 52 (Or.inr (by decide)))).trans (pvu_n e6_ 124 52 (Or.inr (by decide)))))
    have j9059_ : M55_.1 124 40 = (M.1 124 56) := (((pvu_n e56_ 124 40 (Or.inr (by decide))).trans (pvu_s e51_)).trans (((((((((pvu_n e46_ 124 56 (Or.inr (by decide))).trans (pvu_n e41_ 124 56 (Or.inr (by decide)))).trans (pvu_n e36_ 124 56 (Or.inr (by decide)))).trans (pvu_n e31_ 124 56 (Or.inr (by decide)))).trans (pvu_n e26_ 124 56 (Or.inr (by decide)))).trans (pvu_n e21_ 124 56 (Or.inr (by decide)))).trans (pvu_n e16_ 124 56 (Or.inr (by decide)))).trans (pvu_n e11_ 124 56 (Or.inr (by decide)))).trans (pvu_n e6_ 124 56 (Or.inr (by decide)))))
    have j9060_ : M55_.1 124 43 = (M.1 124 57) := ((pvu_s e56_).trans ((((((((((pvu_n e51_ 124 57 (Or.inr (by decide))).trans (pvu_n e46_ 124 57 (Or.inr (by decide)))).trans (pvu_n e41_ 124 57 (Or.inr (by decide)))).trans (pvu_n e36_ 124 57 (Or.inr (by decide)))).trans (pvu_n e31_ 124 57 (Or.inr (by decide)))).trans (pvu_n e26_ 124 57 (Or.inr (by decide)))).trans (pvu_n e21_ 124 57 (Or.inr (by decide)))).trans (pvu_n e16_ 124 57 (Or.inr (by decide)))).trans (pvu_n e11_ 124 57 (Or.inr (by decide)))).trans (pvu_n e6_ 124 57 (Or.inr (by decide)))))
    have j9061_ : zC1 125 151 (Int32.toNatClampNeg 0) M M55_ := (zC1_0 125 151 M M55_)
    have j9062_ : zC1 126 152 (Int32.toNatClampNeg 0) M M55_ := (zC1_0 126 152 M M55_)
    have j9063_ : zC1 127 153 (Int32.toNatClampNeg 0) M M55_ := (zC1_0 127 153 M M55_)
    have j9064_ : zC1 128 154 (Int32.toNatClampNeg 0) M M55_ := (zC1_0 128 154 M M55_)
    have j9065_ : zC1 129 155 (Int32.toNatClampNeg 0) M M55_ := (zC1_0 129 155 M M55_)
    have j9066_ : zC1 131 162 (Int32.toNatClampNeg 0) M M55_ := (zC1_0 131 162 M M55_)
    have j9067_ : zC1 145 157 (Int32.toNatClampNeg 0) M M55_ := (zC1_0 145 157 M M55_)
    have j9068_ : M55_.1 124 37 = (M.1 124 55) := ((((pvu_n e56_ 124 37 (Or.inr (by decide))).trans (pvu_n e51_ 124 37 (Or.inr (by decide)))).trans (pvu_s e46_)).trans ((((((((pvu_n e41_ 124 55 (Or.inr (by decide))).trans (pvu_n e36_ 124 55 (Or.inr (by decide)))).trans (pvu_n e31_ 124 55 (Or.inr (by decide)))).trans (pvu_n e26_ 124 55 (Or.inr (by decide)))).trans (pvu_n e21_ 124 55 (Or.inr (by decide)))).trans (pvu_n e16_ 124 55 (Or.inr (by decide)))).trans (pvu_n e11_ 124 55 (Or.inr (by decide)))).trans (pvu_n e6_ 124 55 (Or.inr (by decide)))))
    exact hlz6761_ _ 0 M55_ o57_ f58_ rfl (zr_wide (show 0 ≤ Int32.toInt 0 ∧ Int32.toInt 0 ≤ 0 from (by decide)) (by decide) (by decide)) j9054_ j9055_ j9056_ j9057_ j9058_ j9059_ j9060_ j9061_ j9062_ j9063_ j9064_ j9065_ j9066_ j9067_ j9068_ (zhid (Nat.lt_succ_self _))
  · have b9069_ : 0 ≤ Int32.toInt (M.1 124 46) ∧ Int32.toInt (M.1 124 46) ≤ 0 := (by have u0 := b1_; have u1 := (zi_eq _ _).mp c2_; have u2 := (show 0 ≤ Int32.toInt 0 ∧ Int32.toInt 0 ≤ 0 from (by decide)); omega)
    refine pw_blk hT 1 (S' := (9, [some (pvR 124), none], [pvI (-3)], M)) rfl ⟨trivial, trivial⟩ ?_
    exact pw_ret hT rfl (r := some (pvI (-3))) (M' := M) ⟨rfl, rfl⟩ ⟨⟨_, rfl, (zr_wide (show (-3) ≤ Int32.toInt (-3) ∧ Int32.toInt (-3) ≤ (-3) from (by decide)) (by decide) (by decide)), (by rw [if_pos c2_]; first | done | (rw [if_pos c2_]; done))⟩, hok, pvfr_0, ⟨fun hz => ⟨by have z3 := hz.1; have z4 := hz.2.1; omega, by have z3 := hz.1; have z4 := hz.2.1; omega, fun a ha => pvWh_r rfl rfl rfl rfl rfl (hz.2.2 a (by omega))⟩, fun hc hc2 => by omega⟩, (Or.inl ⟨c2_, zKm_r 125 130 M⟩), (Or.inl ⟨c2_, fun _ => rfl⟩), (Or.inl ⟨c2_, fun _ => rfl⟩), (Or.inl ⟨c2_, fun _ => rfl⟩), (Or.inl ⟨c2_, fun _ => rfl⟩), (Or.inl ⟨c2_, fun _ => rfl⟩), (by rw [if_pos c2_]; first | done | exact rfl | (rw [if_pos c2_]; done) | (rw [if_pos c2_]; exact rfl)), (by rw [if_pos c2_]; first | done | exact rfl | (rw [if_pos c2_]; done) | (rw [if_pos c2_]; exact rfl)), (by rw [if_pos c2_]; first | done | exact rfl | (rw [if_pos c2_]; done) | (rw [if_pos c2_]; exact rfl)), (by rw [if_pos c2_]; first | done | exact rfl | (rw [if_pos c2_]; done) | (rw [if_pos c2_]; exact rfl)), (by rw [if_pos c2_]; first | done | exact rfl | (rw [if_pos c2_]; done) | (rw [if_pos c2_]; exact rfl)), (by rw [if_pos c2_]; first | done | exact rfl | (rw [if_pos c2_]; done) | (rw [if_pos c2_]; exact rfl))⟩
