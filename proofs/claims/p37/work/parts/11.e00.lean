def fpL_eX10_tape_124_x_x_x : List (Nat × Nat × Nat) := [(0, 164, 0), (0, 165, 0)]
def fp_eX10_tape_124_x_x_x (q k : Nat) : Bool := pvfp fpL_eX10_tape_124_x_x_x q k
set_option maxHeartbeats 4000000 in
set_option maxRecDepth 10000 in
theorem se_X10_tape_124_x_x_x (M : pvM) (hok : pvOk M) (n1 : Int32) (n2 : Int32) (n3 : Int32) (d : Nat) : PW 89 d (0, [some (pvR 124), some (pvI n1), some (pvI n2), some (pvI n3), none], [], M) (fun r X => (∃ x : Int32, r = some (pvI x) ∧ ((-14) ≤ Int32.toInt x ∧ Int32.toInt x ≤ 1) ∧ x = (if n1 < 0 then (-1) else (if 5 < n1 then (-1) else (if n2 < (-1) then (-2) else (if 4 < n2 then (-2) else (if n2 < 0 then 1 else (if n3 ≤ 60 then (if 0 ≤ n3 then 1 else (-14)) else (-2)))))))) ∧ pvOk X ∧ pvFr fp_eX10_tape_124_x_x_x M X) := by
  have hT : pvdom 89 = pvD_89 := rfl
  refine pw_blk hT 2 (S' := (2, [some (pvR 124), some (pvI n1), some (pvI n2), some (pvI n3), none], [pvI n1, pvR 124], M)) rfl ⟨trivial, trivial, trivial⟩ ?_
  refine pw_callT hT (as := [pvR 124, pvI n1]) (lo1 := [some (pvR 124), some (pvI n1)]) (d1 := d) (rest := []) rfl rfl rfl rfl rfl (fun _ => rfl) (Nat.zero_le _) rfl rfl rfl (sf_X10_isTape_124_x M hok n1 d) ?_
  by_cases c6_ : n1 < 0
  · refine pw_eqI (if_pos c6_) ?_
    have b7_ : (-2147483648) ≤ Int32.toInt n1 ∧ Int32.toInt n1 ≤ (-1) := zr_lt_l (-1) c6_ (zbnd n1) (show 0 ≤ Int32.toInt 0 ∧ Int32.toInt 0 ≤ 0 from (by decide)) (by decide)
    show PW 89 d (5, [some (pvR 124), some (pvI n1), some (pvI n2), some (pvI n3), none], [pvI 0], M) _
    refine pw_ifn hT (c := 0 = 0) rfl rfl (fun c8_ => absurd (by decide) c8_) (fun c8_ => ?_)
    refine pw_blk hT 1 (S' := (9, [some (pvR 124), some (pvI n1), some (pvI n2), some (pvI n3), none], [pvI (-1)], M)) rfl ⟨trivial, trivial⟩ ?_
    exact pw_ret hT rfl (r := some (pvI (-1))) (M' := M) ⟨rfl, rfl⟩ ⟨⟨_, rfl, (zr_wide (show (-1) ≤ Int32.toInt (-1) ∧ Int32.toInt (-1) ≤ (-1) from (by decide)) (by decide) (by decide)), (by rw [if_pos c6_]; first | done | (rw [if_pos c6_]; done))⟩, hok, pvfr_0⟩
  · refine pw_eqI (if_neg c6_) ?_
    have b9_ : 0 ≤ Int32.toInt n1 ∧ Int32.toInt n1 ≤ 2147483647 := zr_nlt_l 0 c6_ (zbnd n1) (show 0 ≤ Int32.toInt 0 ∧ Int32.toInt 0 ≤ 0 from (by decide)) (by decide)
    by_cases c10_ : 5 < n1
    · refine pw_eqI (if_pos c10_) ?_
      have b11_ : 6 ≤ Int32.toInt n1 ∧ Int32.toInt n1 ≤ 2147483647 := zr_lt_r 6 c10_ b9_ (show 5 ≤ Int32.toInt 5 ∧ Int32.toInt 5 ≤ 5 from (by decide)) (by decide)
      show PW 89 d (5, [some (pvR 124), some (pvI n1), some (pvI n2), some (pvI n3), none], [pvI 0], M) _
      refine pw_ifn hT (c := 0 = 0) rfl rfl (fun c12_ => absurd (by decide) c12_) (fun c12_ => ?_)
      refine pw_blk hT 1 (S' := (9, [some (pvR 124), some (pvI n1), some (pvI n2), some (pvI n3), none], [pvI (-1)], M)) rfl ⟨trivial, trivial⟩ ?_
      exact pw_ret hT rfl (r := some (pvI (-1))) (M' := M) ⟨rfl, rfl⟩ ⟨⟨_, rfl, (zr_wide (show (-1) ≤ Int32.toInt (-1) ∧ Int32.toInt (-1) ≤ (-1) from (by decide)) (by decide) (by decide)), (by rw [if_neg c6_, if_pos c10_]; first | done | (rw [if_pos c10_]; done))⟩, hok, pvfr_0⟩
    · refine pw_eqI (if_neg c10_) ?_
      have b13_ : 0 ≤ Int32.toInt n1 ∧ Int32.toInt n1 ≤ 5 := zr_nlt_r 5 c10_ b9_ (show 5 ≤ Int32.toInt 5 ∧ Int32.toInt 5 ≤ 5 from (by decide)) (by decide)
      show PW 89 d (5, [some (pvR 124), some (pvI n1), some (pvI n2), some (pvI n3), none], [pvI 1], M) _
      refine pw_ifn hT (c := 1 = 0) rfl rfl (fun c14_ => ?_) (fun c14_ => absurd c14_ (by decide))
      refine pw_blk hT 4 (S' := (14, [some (pvR 124), some (pvI n1), some (pvI n2), some (pvI n3), none], [pvI 4, pvI (-1), pvI n2, pvR 124], M)) rfl ⟨trivial, trivial, trivial, trivial, trivial⟩ ?_
      refine pw_callT hT (as := [pvR 124, pvI n2, pvI (-1), pvI 4]) (lo1 := [some (pvR 124), some (pvI n2), some (pvI (-1)), some (pvI 4)]) (d1 := d) (rest := []) rfl rfl rfl rfl rfl (fun _ => rfl) (Nat.zero_le _) rfl rfl rfl (sf_X10_in_124_x_x_x M hok n2 (-1) 4 d) ?_
      by_cases c20_ : n2 < (-1)
      · refine pw_eqI (if_pos c20_) ?_
        have b21_ : (-2147483648) ≤ Int32.toInt n2 ∧ Int32.toInt n2 ≤ (-2) := zr_lt_l (-2) c20_ (zbnd n2) (show (-1) ≤ Int32.toInt (-1) ∧ Int32.toInt (-1) ≤ (-1) from (by decide)) (by decide)
        show PW 89 d (17, [some (pvR 124), some (pvI n1), some (pvI n2), some (pvI n3), none], [pvI 0], M) _
        refine pw_if hT (c := 0 = 0) rfl rfl (fun c22_ => ?_) (fun c22_ => absurd (by decide) c22_)
        refine pw_blk hT 1 (S' := (32, [some (pvR 124), some (pvI n1), some (pvI n2), some (pvI n3), none], [pvI (-2)], M)) rfl ⟨trivial, trivial⟩ ?_
        exact pw_ret hT rfl (r := some (pvI (-2))) (M' := M) ⟨rfl, rfl⟩ ⟨⟨_, rfl, (zr_wide (show (-2) ≤ Int32.toInt (-2) ∧ Int32.toInt (-2) ≤ (-2) from (by decide)) (by decide) (by decide)), (by rw [if_neg c6_, if_neg c10_, if_pos c20_]; first | done | (rw [if_pos c20_]; done))⟩, hok, pvfr_0⟩
      · refine pw_eqI (if_neg c20_) ?_
        have b23_ : (-1) ≤ Int32.toInt n2 ∧ Int32.toInt n2 ≤ 2147483647 := zr_nlt_l (-1) c20_ (zbnd n2) (show (-1) ≤ Int32.toInt (-1) ∧ Int32.toInt (-1) ≤ (-1) from (by decide)) (by decide)
        by_cases c24_ : 4 < n2
        · refine pw_eqI (if_pos c24_) ?_
          have b25_ : 5 ≤ Int32.toInt n2 ∧ Int32.toInt n2 ≤ 2147483647 := zr_lt_r 5 c24_ b23_ (show 4 ≤ Int32.toInt 4 ∧ Int32.toInt 4 ≤ 4 from (by decide)) (by decide)
          show PW 89 d (17, [some (pvR 124), some (pvI n1), some (pvI n2), some (pvI n3), none], [pvI 0], M) _
          refine pw_if hT (c := 0 = 0) rfl rfl (fun c26_ => ?_) (fun c26_ => absurd (by decide) c26_)
          refine pw_blk hT 1 (S' := (32, [some (pvR 124), some (pvI n1), some (pvI n2), some (pvI n3), none], [pvI (-2)], M)) rfl ⟨trivial, trivial⟩ ?_
          exact pw_ret hT rfl (r := some (pvI (-2))) (M' := M) ⟨rfl, rfl⟩ ⟨⟨_, rfl, (zr_wide (show (-2) ≤ Int32.toInt (-2) ∧ Int32.toInt (-2) ≤ (-2) from (by decide)) (by decide) (by decide)), (by rw [if_neg c6_, if_neg c10_, if_neg c20_, if_pos c24_]; first | done | (rw [if_pos c24_]; done))⟩, hok, pvfr_0⟩
        · refine pw_eqI (if_neg c24_) ?_
          have b27_ : (-1) ≤ Int32.toInt n2 ∧ Int32.toInt n2 ≤ 4 := zr_nlt_r 4 c24_ b23_ (show 4 ≤ Int32.toInt 4 ∧ Int32.toInt 4 ≤ 4 from (by decide)) (by decide)
          show PW 89 d (17, [some (pvR 124), some (pvI n1), some (pvI n2), some (pvI n3), none], [pvI 1], M) _
          refine pw_if hT (c := 1 = 0) rfl rfl (fun c28_ => absurd c28_ (by decide)) (fun c28_ => ?_)
          refine pw_blk hT 1 (S' := (21, [some (pvR 124), some (pvI n1), some (pvI n2), some (pvI n3), none], [pvI n2], M)) rfl ⟨trivial, trivial⟩ ?_
          refine pw_if hT (c := n2 < 0) rfl rfl (fun c29_ => ?_) (fun c29_ => ?_)
          · have b30_ : (-1) ≤ Int32.toInt n2 ∧ Int32.toInt n2 ≤ (-1) := zr_lt_l (-1) c29_ b27_ (show 0 ≤ Int32.toInt 0 ∧ Int32.toInt 0 ≤ 0 from (by decide)) (by decide)
            refine pw_blk hT 1 (S' := (34, [some (pvR 124), some (pvI n1), some (pvI n2), some (pvI n3), none], [pvI n2], M)) rfl ⟨trivial, trivial⟩ ?_
            refine pw_if hT (c := n2 < 0) rfl rfl (fun c31_ => ?_) (fun c31_ => absurd c29_ c31_)
            refine pw_blkw hT 5 (pc := 51) (lo := [some (pvR 124), some (pvI n1), some (pvI n2), some (pvI n3), none]) (st := []) (M := pvu M 164 (Int32.toNatClampNeg n1) n2) rfl ⟨trivial, rfl, trivial, trivial, ⟨rfl, (zr_in (n := 6) b13_ (by decide) (by decide))⟩, trivial⟩ (fun M32_ e33_ => ?_)
            have o34_ : pvOk M32_ := pvok_u2 e33_ hok rfl (zr_wide b30_ (by decide) (by decide))
            have f35_ : pvFr fp_eX10_tape_124_x_x_x M M32_ := pvfr_u e33_ pvfr_0 rfl
            refine pw_blk hT 4 (S' := (57, [some (pvR 124), some (pvI n1), some (pvI n2), some (pvI n3), none], [pvI n2, pvI n1, pvR 165], M32_)) rfl ⟨trivial, rfl, trivial, trivial, trivial⟩ ?_
            refine pw_if hT (c := 0 ≤ n2) rfl rfl (fun c36_ => absurd c36_ (by have z0 := (show 0 ≤ Int32.toInt 0 ∧ Int32.toInt 0 ≤ 0 from (by decide)); have z1 := b30_; rw [zi_le]; omega)) (fun c36_ => ?_)
            refine pw_blkw hT 3 (pc := 66) (lo := [some (pvR 124), some (pvI n1), some (pvI n2), some (pvI n3), none]) (st := []) (M := pvu M32_ 165 (Int32.toNatClampNeg n1) 0) rfl ⟨trivial, trivial, ⟨rfl, (zr_in (n := 6) b13_ (by decide) (by decide))⟩, trivial⟩ (fun M37_ e38_ => ?_)
            have o39_ : pvOk M37_ := pvok_u2 e38_ o34_ rfl (zr_wide (show 0 ≤ Int32.toInt 0 ∧ Int32.toInt 0 ≤ 0 from (by decide)) (by decide) (by decide))
            have f40_ : pvFr fp_eX10_tape_124_x_x_x M M37_ := pvfr_u e38_ f35_ rfl
            refine pw_blk hT 2 (S' := (69, [some (pvR 124), some (pvI n1), some (pvI n2), some (pvI n3), some (pvI 0)], [], M37_)) rfl ⟨trivial, trivial, trivial⟩ ?_
            have hlz95_ : ∀ (nz95_ : Nat) (i4z95_ : Int32) (Mz95_ : pvM), (pvOk Mz95_) → (pvFr fp_eX10_tape_124_x_x_x M Mz95_) → (0 ≤ Int32.toInt i4z95_ ∧ Int32.toInt i4z95_ ≤ 60) → (zhide ((61 - Int32.toInt i4z95_).toNat < nz95_)) → PW 89 d (69, [some (pvR 124), some (pvI n1), some (pvI n2), some (pvI n3), some (pvI i4z95_)], [], Mz95_) (fun r X => (∃ x : Int32, r = some (pvI x) ∧ ((-14) ≤ Int32.toInt x ∧ Int32.toInt x ≤ 1) ∧ x = (if n1 < 0 then (-1) else (if 5 < n1 then (-1) else (if n2 < (-1) then (-2) else (if 4 < n2 then (-2) else (if n2 < 0 then 1 else (if n3 ≤ 60 then (if 0 ≤ n3 then 1 else (-14)) else (-2)))))))) ∧ pvOk X ∧ pvFr fp_eX10_tape_124_x_x_x M X) := by
              intro nz95_
              induction nz95_ with
              | zero => intro i4z95_ Mz95_ oz95_ fz95_ h4z95_ hmz95_; exact absurd (zshow hmz95_) (Nat.not_lt_zero _)
              | succ nz95_ ihz95_ =>
                intro i4z95_ Mz95_ oz95_ fz95_ h4z95_ hmz95_
                refine pw_blk hT 2 (S' := (73, [some (pvR 124), some (pvI n1), some (pvI n2), some (pvI n3), some (pvI i4z95_)], [pvI 60, pvI i4z95_], Mz95_)) rfl ⟨trivial, trivial, trivial⟩ ?_
                refine pw_ic hT (c := 60 ≤ i4z95_) rfl rfl (fun c96_ => ?_) (fun c96_ => ?_)
                · have b97_ : 60 ≤ Int32.toInt i4z95_ ∧ Int32.toInt i4z95_ ≤ 60 := zr_le_r 60 c96_ h4z95_ (show 60 ≤ Int32.toInt 60 ∧ Int32.toInt 60 ≤ 60 from (by decide)) (by decide)
                  refine pw_blk hT 1 (S' := (96, [some (pvR 124), some (pvI n1), some (pvI n2), some (pvI n3), some (pvI i4z95_)], [pvI 1], Mz95_)) rfl ⟨trivial, trivial⟩ ?_
                  exact pw_ret hT rfl (r := some (pvI 1)) (M' := Mz95_) ⟨rfl, rfl⟩ ⟨⟨_, rfl, (zr_wide (show 1 ≤ Int32.toInt 1 ∧ Int32.toInt 1 ≤ 1 from (by decide)) (by decide) (by decide)), (by rw [if_neg c6_, if_neg c10_, if_neg c20_, if_neg c24_, if_pos c29_]; first | done | (rw [if_pos c29_]; done))⟩, oz95_, fz95_⟩
                · have b98_ : 0 ≤ Int32.toInt i4z95_ ∧ Int32.toInt i4z95_ ≤ 59 := zr_nle_r 59 c96_ h4z95_ (show 60 ≤ Int32.toInt 60 ∧ Int32.toInt 60 ≤ 60 from (by decide)) (by decide)
                  have q99_ : Int32.toInt (60 * n1) = 60 * Int32.toInt n1 := by have u0 : Int32.toInt 60 = 60 := (by decide); have u1 := b13_; have u2 := zmul 60 n1 (by rw [u0]; omega) (by rw [u0]; omega); rw [u0] at u2; omega
                  have b100_ : 0 ≤ Int32.toInt (60 * n1) ∧ Int32.toInt (60 * n1) ≤ 300 := (by have u1 := b13_; omega)
                  obtain ⟨q102_, b101_⟩ : (Int32.toInt ((60 * n1) + i4z95_) = Int32.toInt (60 * n1) + Int32.toInt i4z95_) ∧ (0 ≤ Int32.toInt ((60 * n1) + i4z95_) ∧ Int32.toInt ((60 * n1) + i4z95_) ≤ 359) := zadd_r (60 * n1) i4z95_ 0 359 b100_ b98_ (by decide) (by decide) (by decide) (by decide)
                  refine pw_blkw hT 9 (pc := 89) (lo := [some (pvR 124), some (pvI n1), some (pvI n2), some (pvI n3), some (pvI i4z95_)]) (st := []) (M := pvw Mz95_ 166 (Int32.toNatClampNeg ((60 * n1) + i4z95_)) 0) rfl ⟨trivial, rfl, trivial, trivial, trivial, trivial, trivial, trivial, ⟨rfl, (zr_in (n := 360) b101_ (by decide) (by decide))⟩, trivial⟩ (fun M103_ e104_ => ?_)
                  have o105_ : pvOk M103_ := pvok_w e104_ oz95_
                  have f106_ : pvFr fp_eX10_tape_124_x_x_x M M103_ := pvfr_w e104_ fz95_
                  obtain ⟨q108_, b107_⟩ : (Int32.toInt (i4z95_ + 1) = Int32.toInt i4z95_ + 1) ∧ (1 ≤ Int32.toInt (i4z95_ + 1) ∧ Int32.toInt (i4z95_ + 1) ≤ 60) := zadd_k i4z95_ 1 1 1 60 b98_ (by decide) (by decide) (by decide) (by decide) (by decide)
                  refine pw_blk hT 2 (S' := (69, [some (pvR 124), some (pvI n1), some (pvI n2), some (pvI n3), some (pvI (i4z95_ + 1))], [], M103_)) rfl ⟨trivial, trivial, trivial⟩ ?_
                  exact ihz95_ (i4z95_ + 1) M103_ o105_ f106_ (zr_wide b107_ (by decide) (by decide)) (zhid (pvms_up (zshow hmz95_) h4z95_ q108_ (by decide) (by decide)))
            exact hlz95_ _ 0 M37_ o39_ f40_ (zr_wide (show 0 ≤ Int32.toInt 0 ∧ Int32.toInt 0 ≤ 0 from (by decide)) (by decide) (by decide)) (zhid (Nat.lt_succ_self _))
          · have b109_ : 0 ≤ Int32.toInt n2 ∧ Int32.toInt n2 ≤ 4 := zr_nlt_l 0 c29_ b27_ (show 0 ≤ Int32.toInt 0 ∧ Int32.toInt 0 ≤ 0 from (by decide)) (by decide)
            refine pw_blk hT 2 (S' := (27, [some (pvR 124), some (pvI n1), some (pvI n2), some (pvI n3), none], [pvI 60, pvI n3], M)) rfl ⟨trivial, trivial, trivial⟩ ?_
            refine pw_ic hT (c := n3 ≤ 60) rfl rfl (fun c110_ => ?_) (fun c110_ => ?_)
            · have b111_ : (-2147483648) ≤ Int32.toInt n3 ∧ Int32.toInt n3 ≤ 60 := zr_le_l 60 c110_ (zbnd n3) (show 60 ≤ Int32.toInt 60 ∧ Int32.toInt 60 ≤ 60 from (by decide)) (by decide)
              refine pw_blk hT 1 (S' := (34, [some (pvR 124), some (pvI n1), some (pvI n2), some (pvI n3), none], [pvI n2], M)) rfl ⟨trivial, trivial⟩ ?_
              refine pw_if hT (c := n2 < 0) rfl rfl (fun c112_ => absurd c112_ c29_) (fun c112_ => ?_)
              refine pw_blk hT 1 (S' := (38, [some (pvR 124), some (pvI n1), some (pvI n2), some (pvI n3), none], [pvI n3], M)) rfl ⟨trivial, trivial⟩ ?_
              refine pw_if hT (c := 0 ≤ n3) rfl rfl (fun c113_ => ?_) (fun c113_ => ?_)
              · have b114_ : 0 ≤ Int32.toInt n3 ∧ Int32.toInt n3 ≤ 60 := zr_le_r 0 c113_ b111_ (show 0 ≤ Int32.toInt 0 ∧ Int32.toInt 0 ≤ 0 from (by decide)) (by decide)
                refine pw_blkw hT 5 (pc := 51) (lo := [some (pvR 124), some (pvI n1), some (pvI n2), some (pvI n3), none]) (st := []) (M := pvu M 164 (Int32.toNatClampNeg n1) n2) rfl ⟨trivial, rfl, trivial, trivial, ⟨rfl, (zr_in (n := 6) b13_ (by decide) (by decide))⟩, trivial⟩ (fun M115_ e116_ => ?_)
                have o117_ : pvOk M115_ := pvok_u2 e116_ hok rfl (zr_wide b109_ (by decide) (by decide))
                have f118_ : pvFr fp_eX10_tape_124_x_x_x M M115_ := pvfr_u e116_ pvfr_0 rfl
                refine pw_blk hT 4 (S' := (57, [some (pvR 124), some (pvI n1), some (pvI n2), some (pvI n3), none], [pvI n2, pvI n1, pvR 165], M115_)) rfl ⟨trivial, rfl, trivial, trivial, trivial⟩ ?_
                refine pw_if hT (c := 0 ≤ n2) rfl rfl (fun c119_ => ?_) (fun c119_ => absurd (by have z0 := (show 0 ≤ Int32.toInt 0 ∧ Int32.toInt 0 ≤ 0 from (by decide)); have z1 := b109_; rw [zi_le]; omega) c119_)
                refine pw_blkw hT 2 (pc := 66) (lo := [some (pvR 124), some (pvI n1), some (pvI n2), some (pvI n3), none]) (st := []) (M := pvu M115_ 165 (Int32.toNatClampNeg n1) n3) rfl ⟨trivial, ⟨rfl, (zr_in (n := 6) b13_ (by decide) (by decide))⟩, trivial⟩ (fun M120_ e121_ => ?_)
                have o122_ : pvOk M120_ := pvok_u2 e121_ o117_ rfl b114_
                have f123_ : pvFr fp_eX10_tape_124_x_x_x M M120_ := pvfr_u e121_ f118_ rfl
                refine pw_blk hT 2 (S' := (69, [some (pvR 124), some (pvI n1), some (pvI n2), some (pvI n3), some (pvI 0)], [], M120_)) rfl ⟨trivial, trivial, trivial⟩ ?_
                have hlz178_ : ∀ (nz178_ : Nat) (i4z178_ : Int32) (Mz178_ : pvM), (pvOk Mz178_) → (pvFr fp_eX10_tape_124_x_x_x M Mz178_) → (0 ≤ Int32.toInt i4z178_ ∧ Int32.toInt i4z178_ ≤ 60) → (zhide ((61 - Int32.toInt i4z178_).toNat < nz178_)) → PW 89 d (69, [some (pvR 124), some (pvI n1), some (pvI n2), some (pvI n3), some (pvI i4z178_)], [], Mz178_) (fun r X => (∃ x : Int32, r = some (pvI x) ∧ ((-14) ≤ Int32.toInt x ∧ Int32.toInt x ≤ 1) ∧ x = (if n1 < 0 then (-1) else (if 5 < n1 then (-1) else (if n2 < (-1) then (-2) else (if 4 < n2 then (-2) else (if n2 < 0 then 1 else (if n3 ≤ 60 then (if 0 ≤ n3 then 1 else (-14)) else (-2)))))))) ∧ pvOk X ∧ pvFr fp_eX10_tape_124_x_x_x M X) := by
                  intro nz178_
                  induction nz178_ with
                  | zero => intro i4z178_ Mz178_ oz178_ fz178_ h4z178_ hmz178_; exact absurd (zshow hmz178_) (Nat.not_lt_zero _)
                  | succ nz178_ ihz178_ =>
                    intro i4z178_ Mz178_ oz178_ fz178_ h4z178_ hmz178_
                    refine pw_blk hT 2 (S' := (73, [some (pvR 124), some (pvI n1), some (pvI n2), some (pvI n3), some (pvI i4z178_)], [pvI 60, pvI i4z178_], Mz178_)) rfl ⟨trivial, trivial, trivial⟩ ?_
                    refine pw_ic hT (c := 60 ≤ i4z178_) rfl rfl (fun c179_ => ?_) (fun c179_ => ?_)
                    · have b180_ : 60 ≤ Int32.toInt i4z178_ ∧ Int32.toInt i4z178_ ≤ 60 := zr_le_r 60 c179_ h4z178_ (show 60 ≤ Int32.toInt 60 ∧ Int32.toInt 60 ≤ 60 from (by decide)) (by decide)
                      refine pw_blk hT 1 (S' := (96, [some (pvR 124), some (pvI n1), some (pvI n2), some (pvI n3), some (pvI i4z178_)], [pvI 1], Mz178_)) rfl ⟨trivial, trivial⟩ ?_
                      exact pw_ret hT rfl (r := some (pvI 1)) (M' := Mz178_) ⟨rfl, rfl⟩ ⟨⟨_, rfl, (zr_wide (show 1 ≤ Int32.toInt 1 ∧ Int32.toInt 1 ≤ 1 from (by decide)) (by decide) (by decide)), (by rw [if_neg c6_, if_neg c10_, if_neg c20_, if_neg c24_, if_neg c29_, if_pos c110_, if_pos c113_]; first | done | (rw [if_pos c113_]; done))⟩, oz178_, fz178_⟩
                    · have b181_ : 0 ≤ Int32.toInt i4z178_ ∧ Int32.toInt i4z178_ ≤ 59 := zr_nle_r 59 c179_ h4z178_ (show 60 ≤ Int32.toInt 60 ∧ Int32.toInt 60 ≤ 60 from (by decide)) (by decide)
                      have q182_ : Int32.toInt (60 * n1) = 60 * Int32.toInt n1 := by have u0 : Int32.toInt 60 = 60 := (by decide); have u1 := b13_; have u2 := zmul 60 n1 (by rw [u0]; omega) (by rw [u0]; omega); rw [u0] at u2; omega
                      have b183_ : 0 ≤ Int32.toInt (60 * n1) ∧ Int32.toInt (60 * n1) ≤ 300 := (by have u1 := b13_; omega)
                      obtain ⟨q185_, b184_⟩ : (Int32.toInt ((60 * n1) + i4z178_) = Int32.toInt (60 * n1) + Int32.toInt i4z178_) ∧ (0 ≤ Int32.toInt ((60 * n1) + i4z178_) ∧ Int32.toInt ((60 * n1) + i4z178_) ≤ 359) := zadd_r (60 * n1) i4z178_ 0 359 b183_ b181_ (by decide) (by decide) (by decide) (by decide)
                      refine pw_blkw hT 9 (pc := 89) (lo := [some (pvR 124), some (pvI n1), some (pvI n2), some (pvI n3), some (pvI i4z178_)]) (st := []) (M := pvw Mz178_ 166 (Int32.toNatClampNeg ((60 * n1) + i4z178_)) 0) rfl ⟨trivial, rfl, trivial, trivial, trivial, trivial, trivial, trivial, ⟨rfl, (zr_in (n := 360) b184_ (by decide) (by decide))⟩, trivial⟩ (fun M186_ e187_ => ?_)
                      have o188_ : pvOk M186_ := pvok_w e187_ oz178_
                      have f189_ : pvFr fp_eX10_tape_124_x_x_x M M186_ := pvfr_w e187_ fz178_
                      obtain ⟨q191_, b190_⟩ : (Int32.toInt (i4z178_ + 1) = Int32.toInt i4z178_ + 1) ∧ (1 ≤ Int32.toInt (i4z178_ + 1) ∧ Int32.toInt (i4z178_ + 1) ≤ 60) := zadd_k i4z178_ 1 1 1 60 b181_ (by decide) (by decide) (by decide) (by decide) (by decide)
                      refine pw_blk hT 2 (S' := (69, [some (pvR 124), some (pvI n1), some (pvI n2), some (pvI n3), some (pvI (i4z178_ + 1))], [], M186_)) rfl ⟨trivial, trivial, trivial⟩ ?_
                      exact ihz178_ (i4z178_ + 1) M186_ o188_ f189_ (zr_wide b190_ (by decide) (by decide)) (zhid (pvms_up (zshow hmz178_) h4z178_ q191_ (by decide) (by decide)))
                exact hlz178_ _ 0 M120_ o122_ f123_ (zr_wide (show 0 ≤ Int32.toInt 0 ∧ Int32.toInt 0 ≤ 0 from (by decide)) (by decide) (by decide)) (zhid (Nat.lt_succ_self _))
              · have b192_ : (-2147483648) ≤ Int32.toInt n3 ∧ Int32.toInt n3 ≤ (-1) := zr_nle_r (-1) c113_ b111_ (show 0 ≤ Int32.toInt 0 ∧ Int32.toInt 0 ≤ 0 from (by decide)) (by decide)
                refine pw_blk hT 1 (S' := (43, [some (pvR 124), some (pvI n1), some (pvI n2), some (pvI n3), none], [pvI (-14)], M)) rfl ⟨trivial, trivial⟩ ?_
                exact pw_ret hT rfl (r := some (pvI (-14))) (M' := M) ⟨rfl, rfl⟩ ⟨⟨_, rfl, (zr_wide (show (-14) ≤ Int32.toInt (-14) ∧ Int32.toInt (-14) ≤ (-14) from (by decide)) (by decide) (by decide)), (by rw [if_neg c6_, if_neg c10_, if_neg c20_, if_neg c24_, if_neg c29_, if_pos c110_, if_neg c113_]; first | done | (rw [if_neg c113_]; done))⟩, hok, pvfr_0⟩
            · have b193_ : 61 ≤ Int32.toInt n3 ∧ Int32.toInt n3 ≤ 2147483647 := zr_nle_l 61 c110_ (zbnd n3) (show 60 ≤ Int32.toInt 60 ∧ Int32.toInt 60 ≤ 60 from (by decide)) (by decide)
              refine pw_blk hT 1 (S' := (32, [some (pvR 124), some (pvI n1), some (pvI n2), some (pvI n3), none], [pvI (-2)], M)) rfl ⟨trivial, trivial⟩ ?_
              exact pw_ret hT rfl (r := some (pvI (-2))) (M' := M) ⟨rfl, rfl⟩ ⟨⟨_, rfl, (zr_wide (show (-2) ≤ Int32.toInt (-2) ∧ Int32.toInt (-2) ≤ (-2) from (by decide)) (by decide) (by decide)), (by rw [if_neg c6_, if_neg c10_, if_neg c20_, if_neg c24_, if_neg c29_, if_neg c110_]; first | done | (rw [if_neg c110_]; done))⟩, hok, pvfr_0⟩
def fpL_eX9_tape_0_x_x_x : List (Nat × Nat × Nat) := [(1, 7, 1), (1, 7, 2)]
def fp_eX9_tape_0_x_x_x (q k : Nat) : Bool := pvfp fpL_eX9_tape_0_x_x_x q k
theorem fp_eX9_tape_0_x_x_x_fp_X8_become_x_x_x (a b : Nat) (h : fp_X8_become_x_x_x a b = true) : fp_eX9_tape_0_x_x_x a b = true := pvfp_sub (l1 := fpL_X8_become_x_x_x) (l2 := fpL_eX9_tape_0_x_x_x) (by decide) a b h
set_option maxHeartbeats 4000000 in
set_option maxRecDepth 10000 in
theorem se_X9_tape_0_x_x_x (M : pvM) (hok : pvOk M) (n1 : Int32) (n2 : Int32) (n3 : Int32) (d : Nat) : PW 204 d (0, [some (pvR 0), some (pvI n1), some (pvI n2), some (pvI n3)], [], M) (fun r X => (∃ x : Int32, r = some (pvI x) ∧ ((-14) ≤ Int32.toInt x ∧ Int32.toInt x ≤ 1) ∧ x = (if n1 < 0 then (-1) else (if 5 < n1 then (-1) else (if n2 = (-1) then 1 else (if n2 < 0 then (-2) else (if 4 < n2 then (-2) else (if n3 ≤ 60 then (if 0 ≤ n3 then 1 else (-14)) else (-2)))))))) ∧ pvOk X ∧ pvFr fp_eX9_tape_0_x_x_x M X) := by
  have hT : pvdom 204 = pvD_204 := rfl
  refine pw_blk hT 1 (S' := (1, [some (pvR 0), some (pvI n1), some (pvI n2), some (pvI n3)], [pvI n1], M)) rfl ⟨trivial, trivial⟩ ?_
  refine pw_callT hT (as := [pvI n1]) (lo1 := [some (pvI n1)]) (d1 := d) (rest := []) rfl rfl rfl rfl rfl (fun h => absurd h (by decide)) (Nat.zero_le _) rfl rfl rfl (sf_X9_isTape_x M hok n1 d) ?_
  by_cases c6_ : n1 < 0
  · refine pw_eqI (if_pos c6_) ?_
    have b7_ : (-2147483648) ≤ Int32.toInt n1 ∧ Int32.toInt n1 ≤ (-1) := zr_lt_l (-1) c6_ (zbnd n1) (show 0 ≤ Int32.toInt 0 ∧ Int32.toInt 0 ≤ 0 from (by decide)) (by decide)
    show PW 204 d (4, [some (pvR 0), some (pvI n1), some (pvI n2), some (pvI n3)], [pvI 0], M) _
    refine pw_ifn hT (c := 0 = 0) rfl rfl (fun c8_ => absurd (by decide) c8_) (fun c8_ => ?_)
    refine pw_blk hT 1 (S' := (8, [some (pvR 0), some (pvI n1), some (pvI n2), some (pvI n3)], [pvI (-1)], M)) rfl ⟨trivial, trivial⟩ ?_
    exact pw_ret hT rfl (r := some (pvI (-1))) (M' := M) ⟨rfl, rfl⟩ ⟨⟨_, rfl, (zr_wide (show (-1) ≤ Int32.toInt (-1) ∧ Int32.toInt (-1) ≤ (-1) from (by decide)) (by decide) (by decide)), (by rw [if_pos c6_]; first | done | (rw [if_pos c6_]; done))⟩, hok, pvfr_0⟩
  · refine pw_eqI (if_neg c6_) ?_
    have b9_ : 0 ≤ Int32.toInt n1 ∧ Int32.toInt n1 ≤ 2147483647 := zr_nlt_l 0 c6_ (zbnd n1) (show 0 ≤ Int32.toInt 0 ∧ Int32.toInt 0 ≤ 0 from (by decide)) (by decide)
    by_cases c10_ : 5 < n1
    · refine pw_eqI (if_pos c10_) ?_
      have b11_ : 6 ≤ Int32.toInt n1 ∧ Int32.toInt n1 ≤ 2147483647 := zr_lt_r 6 c10_ b9_ (show 5 ≤ Int32.toInt 5 ∧ Int32.toInt 5 ≤ 5 from (by decide)) (by decide)
      show PW 204 d (4, [some (pvR 0), some (pvI n1), some (pvI n2), some (pvI n3)], [pvI 0], M) _
      refine pw_ifn hT (c := 0 = 0) rfl rfl (fun c12_ => absurd (by decide) c12_) (fun c12_ => ?_)
      refine pw_blk hT 1 (S' := (8, [some (pvR 0), some (pvI n1), some (pvI n2), some (pvI n3)], [pvI (-1)], M)) rfl ⟨trivial, trivial⟩ ?_
      exact pw_ret hT rfl (r := some (pvI (-1))) (M' := M) ⟨rfl, rfl⟩ ⟨⟨_, rfl, (zr_wide (show (-1) ≤ Int32.toInt (-1) ∧ Int32.toInt (-1) ≤ (-1) from (by decide)) (by decide) (by decide)), (by rw [if_neg c6_, if_pos c10_]; first | done | (rw [if_pos c10_]; done))⟩, hok, pvfr_0⟩
    · refine pw_eqI (if_neg c10_) ?_
      have b13_ : 0 ≤ Int32.toInt n1 ∧ Int32.toInt n1 ≤ 5 := zr_nlt_r 5 c10_ b9_ (show 5 ≤ Int32.toInt 5 ∧ Int32.toInt 5 ≤ 5 from (by decide)) (by decide)
      show PW 204 d (4, [some (pvR 0), some (pvI n1), some (pvI n2), some (pvI n3)], [pvI 1], M) _
      refine pw_ifn hT (c := 1 = 0) rfl rfl (fun c14_ => ?_) (fun c14_ => absurd c14_ (by decide))
      refine pw_blk hT 2 (S' := (11, [some (pvR 0), some (pvI n1), some (pvI n2), some (pvI n3)], [pvI (-1), pvI n2], M)) rfl ⟨trivial, trivial, trivial⟩ ?_
      refine pw_icn hT (c := n2 = (-1)) rfl rfl (fun c15_ => ?_) (fun c15_ => ?_)
      · refine pw_blk hT 3 (S' := (30, [some (pvR 0), some (pvI n1), some (pvI n2), some (pvI n3)], [pvI 4, pvI 0, pvI n2], M)) rfl ⟨trivial, trivial, trivial, trivial⟩ ?_
        refine pw_callT hT (as := [pvI n2, pvI 0, pvI 4]) (lo1 := [some (pvI n2), some (pvI 0), some (pvI 4)]) (d1 := d) (rest := []) rfl rfl rfl rfl rfl (fun h => absurd h (by decide)) (Nat.zero_le _) rfl rfl rfl (sf_X9_within_x_x_x M hok n2 0 4 d) ?_
        by_cases c21_ : n2 < 0
        · refine pw_eqI (if_pos c21_) ?_
          have b22_ : (-2147483648) ≤ Int32.toInt n2 ∧ Int32.toInt n2 ≤ (-2) := (by have u0 := (zbnd n2); have u9 := (show _ ∧ _ from ⟨(zi_lt _ _).mp c21_, (show 0 ≤ Int32.toInt 0 ∧ Int32.toInt 0 ≤ 0 from (by decide))⟩); have v1 := (not_congr (zi_eq _ _)).mp c15_; have w1 : ((-1) : Int32).toInt = -1 := (by decide); omega)
          show PW 204 d (33, [some (pvR 0), some (pvI n1), some (pvI n2), some (pvI n3)], [pvI 0], M) _
          refine pw_if hT (c := 0 = 0) rfl rfl (fun c23_ => ?_) (fun c23_ => absurd (by decide) c23_)
          refine pw_blk hT 1 (S' := (44, [some (pvR 0), some (pvI n1), some (pvI n2), some (pvI n3)], [pvI (-2)], M)) rfl ⟨trivial, trivial⟩ ?_
          exact pw_ret hT rfl (r := some (pvI (-2))) (M' := M) ⟨rfl, rfl⟩ ⟨⟨_, rfl, (zr_wide (show (-2) ≤ Int32.toInt (-2) ∧ Int32.toInt (-2) ≤ (-2) from (by decide)) (by decide) (by decide)), (by rw [if_neg c6_, if_neg c10_, if_neg c15_, if_pos c21_]; first | done | (rw [if_pos c21_]; done))⟩, hok, pvfr_0⟩
        · refine pw_eqI (if_neg c21_) ?_
          have b24_ : 0 ≤ Int32.toInt n2 ∧ Int32.toInt n2 ≤ 2147483647 := zr_nlt_l 0 c21_ (zbnd n2) (show 0 ≤ Int32.toInt 0 ∧ Int32.toInt 0 ≤ 0 from (by decide)) (by decide)
          by_cases c25_ : 4 < n2
          · refine pw_eqI (if_pos c25_) ?_
            have b26_ : 5 ≤ Int32.toInt n2 ∧ Int32.toInt n2 ≤ 2147483647 := zr_lt_r 5 c25_ b24_ (show 4 ≤ Int32.toInt 4 ∧ Int32.toInt 4 ≤ 4 from (by decide)) (by decide)
            show PW 204 d (33, [some (pvR 0), some (pvI n1), some (pvI n2), some (pvI n3)], [pvI 0], M) _
            refine pw_if hT (c := 0 = 0) rfl rfl (fun c27_ => ?_) (fun c27_ => absurd (by decide) c27_)
            refine pw_blk hT 1 (S' := (44, [some (pvR 0), some (pvI n1), some (pvI n2), some (pvI n3)], [pvI (-2)], M)) rfl ⟨trivial, trivial⟩ ?_
            exact pw_ret hT rfl (r := some (pvI (-2))) (M' := M) ⟨rfl, rfl⟩ ⟨⟨_, rfl, (zr_wide (show (-2) ≤ Int32.toInt (-2) ∧ Int32.toInt (-2) ≤ (-2) from (by decide)) (by decide) (by decide)), (by rw [if_neg c6_, if_neg c10_, if_neg c15_, if_neg c21_, if_pos c25_]; first | done | (rw [if_pos c25_]; done))⟩, hok, pvfr_0⟩
          · refine pw_eqI (if_neg c25_) ?_
            have b28_ : 0 ≤ Int32.toInt n2 ∧ Int32.toInt n2 ≤ 4 := zr_nlt_r 4 c25_ b24_ (show 4 ≤ Int32.toInt 4 ∧ Int32.toInt 4 ≤ 4 from (by decide)) (by decide)
            show PW 204 d (33, [some (pvR 0), some (pvI n1), some (pvI n2), some (pvI n3)], [pvI 1], M) _
            refine pw_if hT (c := 1 = 0) rfl rfl (fun c29_ => absurd c29_ (by decide)) (fun c29_ => ?_)
            refine pw_blk hT 2 (S' := (39, [some (pvR 0), some (pvI n1), some (pvI n2), some (pvI n3)], [pvI 60, pvI n3], M)) rfl ⟨trivial, trivial, trivial⟩ ?_
            refine pw_ic hT (c := n3 ≤ 60) rfl rfl (fun c30_ => ?_) (fun c30_ => ?_)
            · have b31_ : (-2147483648) ≤ Int32.toInt n3 ∧ Int32.toInt n3 ≤ 60 := zr_le_l 60 c30_ (zbnd n3) (show 60 ≤ Int32.toInt 60 ∧ Int32.toInt 60 ≤ 60 from (by decide)) (by decide)
              refine pw_blk hT 1 (S' := (46, [some (pvR 0), some (pvI n1), some (pvI n2), some (pvI n3)], [pvI n3], M)) rfl ⟨trivial, trivial⟩ ?_
              refine pw_if hT (c := 0 ≤ n3) rfl rfl (fun c32_ => ?_) (fun c32_ => ?_)
              · have b33_ : 0 ≤ Int32.toInt n3 ∧ Int32.toInt n3 ≤ 60 := zr_le_r 0 c32_ b31_ (show 0 ≤ Int32.toInt 0 ∧ Int32.toInt 0 ≤ 0 from (by decide)) (by decide)
                refine pw_blkr hT 4 (pc := 58) (lo := [some (pvR 0), some (pvI n1), some (pvI n2), some (pvI n3)]) (st := []) (M := M) (z := (pvbs 2 + Int32.toNatClampNeg n1)) rfl ⟨trivial, rfl, trivial, ⟨rfl, (zr_in (n := 6) b13_ (by decide) (by decide))⟩, trivial⟩ (fun q34_ e36_ => ?_)
                have k35_ : pvkl q34_ = 7 := pvel_2 (zr_in (n := 6) b13_ (by decide) (by decide)) e36_
                refine pw_blk hT 2 (S' := (60, [some (pvR 0), some (pvI n1), some (pvI n2), some (pvI n3)], [pvI n3, pvI n2, pvR q34_], M)) rfl ⟨trivial, trivial, trivial⟩ ?_
                refine pw_callV hT (as := [pvR q34_, pvI n2, pvI n3]) (lo1 := [some (pvR q34_), some (pvI n2), some (pvI n3), none]) (d1 := d) (rest := []) rfl rfl rfl rfl rfl (fun _ => k35_) (Nat.zero_le _) rfl rfl rfl (sf_X8_become_x_x_x M hok q34_ n2 n3 k35_ (zr_wide b28_ (by decide) (by decide)) d) (fun M38_ o40_ g41_ => ?_)
                have f42_ : pvFr fp_eX9_tape_0_x_x_x M M38_ := pvfr_t g41_ pvfr_0 fp_eX9_tape_0_x_x_x_fp_X8_become_x_x_x
                refine pw_blk hT 1 (S' := (64, [some (pvR 0), some (pvI n1), some (pvI n2), some (pvI n3)], [pvI 1], M38_)) rfl ⟨trivial, trivial⟩ ?_
                exact pw_ret hT rfl (r := some (pvI 1)) (M' := M38_) ⟨rfl, rfl⟩ ⟨⟨_, rfl, (zr_wide (show 1 ≤ Int32.toInt 1 ∧ Int32.toInt 1 ≤ 1 from (by decide)) (by decide) (by decide)), (by rw [if_neg c6_, if_neg c10_, if_neg c15_, if_neg c21_, if_neg c25_, if_pos c30_, if_pos c32_]; first | done | (rw [if_pos c32_]; done))⟩, o40_, f42_⟩
              · have b43_ : (-2147483648) ≤ Int32.toInt n3 ∧ Int32.toInt n3 ≤ (-1) := zr_nle_r (-1) c32_ b31_ (show 0 ≤ Int32.toInt 0 ∧ Int32.toInt 0 ≤ 0 from (by decide)) (by decide)
                refine pw_blk hT 1 (S' := (51, [some (pvR 0), some (pvI n1), some (pvI n2), some (pvI n3)], [pvI (-14)], M)) rfl ⟨trivial, trivial⟩ ?_
                exact pw_ret hT rfl (r := some (pvI (-14))) (M' := M) ⟨rfl, rfl⟩ ⟨⟨_, rfl, (zr_wide (show (-14) ≤ Int32.toInt (-14) ∧ Int32.toInt (-14) ≤ (-14) from (by decide)) (by decide) (by decide)), (by rw [if_neg c6_, if_neg c10_, if_neg c15_, if_neg c21_, if_neg c25_, if_pos c30_, if_neg c32_]; first | done | (rw [if_neg c32_]; done))⟩, hok, pvfr_0⟩
            · have b44_ : 61 ≤ Int32.toInt n3 ∧ Int32.toInt n3 ≤ 2147483647 := zr_nle_l 61 c30_ (zbnd n3) (show 60 ≤ Int32.toInt 60 ∧ Int32.toInt 60 ≤ 60 from (by decide)) (by decide)
              refine pw_blk hT 1 (S' := (44, [some (pvR 0), some (pvI n1), some (pvI n2), some (pvI n3)], [pvI (-2)], M)) rfl ⟨trivial, trivial⟩ ?_
              exact pw_ret hT rfl (r := some (pvI (-2))) (M' := M) ⟨rfl, rfl⟩ ⟨⟨_, rfl, (zr_wide (show (-2) ≤ Int32.toInt (-2) ∧ Int32.toInt (-2) ≤ (-2) from (by decide)) (by decide) (by decide)), (by rw [if_neg c6_, if_neg c10_, if_neg c15_, if_neg c21_, if_neg c25_, if_neg c30_]; first | done | (rw [if_neg c30_]; done))⟩, hok, pvfr_0⟩
      · have b45_ : (-1) ≤ Int32.toInt n2 ∧ Int32.toInt n2 ≤ (-1) := (by have u0 := (zbnd n2); have u1 := (zi_eq _ _).mp c15_; have u2 := (show (-1) ≤ Int32.toInt (-1) ∧ Int32.toInt (-1) ≤ (-1) from (by decide)); omega)
        refine pw_blkr hT 4 (pc := 20) (lo := [some (pvR 0), some (pvI n1), some (pvI n2), some (pvI n3)]) (st := []) (M := M) (z := (pvbs 2 + Int32.toNatClampNeg n1)) rfl ⟨trivial, rfl, trivial, ⟨rfl, (zr_in (n := 6) b13_ (by decide) (by decide))⟩, trivial⟩ (fun q46_ e48_ => ?_)
        have k47_ : pvkl q46_ = 7 := pvel_2 (zr_in (n := 6) b13_ (by decide) (by decide)) e48_
        refine pw_blk hT 2 (S' := (22, [some (pvR 0), some (pvI n1), some (pvI n2), some (pvI n3)], [pvI 0, pvI (-1), pvR q46_], M)) rfl ⟨trivial, trivial, trivial⟩ ?_
        refine pw_callV hT (as := [pvR q46_, pvI (-1), pvI 0]) (lo1 := [some (pvR q46_), some (pvI (-1)), some (pvI 0), none]) (d1 := d) (rest := []) rfl rfl rfl rfl rfl (fun _ => k47_) (Nat.zero_le _) rfl rfl rfl (sf_X8_become_x_x_x M hok q46_ (-1) 0 k47_ (zr_wide (show (-1) ≤ Int32.toInt (-1) ∧ Int32.toInt (-1) ≤ (-1) from (by decide)) (by decide) (by decide)) d) (fun M50_ o52_ g53_ => ?_)
        have f54_ : pvFr fp_eX9_tape_0_x_x_x M M50_ := pvfr_t g53_ pvfr_0 fp_eX9_tape_0_x_x_x_fp_X8_become_x_x_x
        refine pw_blk hT 1 (S' := (26, [some (pvR 0), some (pvI n1), some (pvI n2), some (pvI n3)], [pvI 1], M50_)) rfl ⟨trivial, trivial⟩ ?_
        exact pw_ret hT rfl (r := some (pvI 1)) (M' := M50_) ⟨rfl, rfl⟩ ⟨⟨_, rfl, (zr_wide (show 1 ≤ Int32.toInt 1 ∧ Int32.toInt 1 ≤ 1 from (by decide)) (by decide) (by decide)), (by rw [if_neg c6_, if_neg c10_, if_pos c15_]; first | done | (rw [if_pos c15_]; done))⟩, o52_, f54_⟩
