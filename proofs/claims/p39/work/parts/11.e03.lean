def fpL_eX10_undo_124 : List (Nat × Nat × Nat) := [(0, 124, 1), (0, 124, 2), (0, 124, 16), (0, 124, 3), (0, 124, 4), (0, 124, 38), (0, 124, 5), (0, 124, 41), (0, 124, 44), (0, 124, 6), (0, 124, 7), (0, 125, 0), (0, 126, 0), (0, 127, 0), (0, 128, 0), (0, 129, 0), (0, 130, 0), (0, 131, 0), (0, 145, 0), (0, 147, 0), (0, 148, 0), (0, 149, 0), (0, 150, 0)]
def fp_eX10_undo_124 (q k : Nat) : Bool := pvfp fpL_eX10_undo_124 q k
set_option maxHeartbeats 4000000 in
set_option maxRecDepth 10000 in
theorem se_X10_undo_124 (M : pvM) (hok : pvOk M) (d : Nat) : PW 94 d (0, [some (pvR 124), none], [], M) (fun r X => (∃ x : Int32, r = some (pvI x) ∧ ((-3) ≤ Int32.toInt x ∧ Int32.toInt x ≤ 7) ∧ x = (if (M.1 124 46) = 0 then (-3) else (M.1 124 48))) ∧ pvOk X ∧ pvFr fp_eX10_undo_124 M X ∧ ((pvWF M → pvWF X) ∧ (Int32.toInt (M.1 124 51) ≤ 99 → Int32.toInt (M.1 124 3) ≤ 99 → Int32.toInt (X.1 124 3) ≤ 99)) ∧ X.1 124 0 = (if (M.1 124 46) = 0 then (M.1 124 0) else (M.1 124 48)) ∧ X.1 124 3 = (if (M.1 124 46) = 0 then (M.1 124 3) else (M.1 124 51)) ∧ X.1 124 4 = (if (M.1 124 46) = 0 then (M.1 124 4) else (M.1 124 52)) ∧ X.1 124 40 = (if (M.1 124 46) = 0 then (M.1 124 40) else (M.1 124 56)) ∧ X.1 124 43 = (if (M.1 124 46) = 0 then (M.1 124 43) else (M.1 124 57))) := by
  have hT : pvdom 94 = pvD_94 := rfl
  have b1_ : 0 ≤ Int32.toInt (M.1 124 46) ∧ Int32.toInt (M.1 124 46) ≤ 1 := pvok_r hok 124 46 rfl
  refine pw_blk hT 2 (S' := (4, [some (pvR 124), none], [pvI (M.1 124 46)], M)) rfl ⟨trivial, rfl, trivial⟩ ?_
  refine pw_ifn hT (c := (M.1 124 46) = 0) rfl rfl (fun c2_ => ?_) (fun c2_ => ?_)
  · have b3_ : 1 ≤ Int32.toInt (M.1 124 46) ∧ Int32.toInt (M.1 124 46) ≤ 1 := (by have u0 := b1_; have u1 := (not_congr (zi_eq _ _)).mp c2_; have u2 := (show 0 ≤ Int32.toInt 0 ∧ Int32.toInt 0 ≤ 0 from (by decide)); omega)
    have b4_ : (-1) ≤ Int32.toInt (M.1 124 47) ∧ Int32.toInt (M.1 124 47) ≤ 5 := pvok_r hok 124 47 rfl
    refine pw_blkw hT 4 (pc := 18) (lo := [some (pvR 124), none]) (st := []) (M := pvu M 124 15 (M.1 124 47)) rfl ⟨trivial, trivial, rfl, rfl, trivial⟩ (fun M5_ e6_ => ?_)
    have o7_ : pvOk M5_ := pvok_u2 e6_ hok rfl b4_
    have f8_ : pvFr fp_eX10_undo_124 M M5_ := pvfr_u e6_ pvfr_0 rfl
    have b9_ : 0 ≤ Int32.toInt (M5_.1 124 48) ∧ Int32.toInt (M5_.1 124 48) ≤ 7 := pvok_r o7_ 124 48 rfl
    refine pw_blkw hT 4 (pc := 26) (lo := [some (pvR 124), none]) (st := []) (M := pvu M5_ 124 0 (M5_.1 124 48)) rfl ⟨trivial, trivial, rfl, rfl, trivial⟩ (fun M10_ e11_ => ?_)
    have o12_ : pvOk M10_ := pvok_u2 e11_ o7_ rfl b9_
    have f13_ : pvFr fp_eX10_undo_124 M M10_ := pvfr_u e11_ f8_ rfl
    have b14_ : 0 ≤ Int32.toInt (M10_.1 124 49) ∧ Int32.toInt (M10_.1 124 49) ≤ 9999 := pvok_r o12_ 124 49 rfl
    refine pw_blkw hT 4 (pc := 34) (lo := [some (pvR 124), none]) (st := []) (M := pvu M10_ 124 1 (M10_.1 124 49)) rfl ⟨trivial, trivial, rfl, rfl, trivial⟩ (fun M15_ e16_ => ?_)
    have o17_ : pvOk M15_ := pvok_u2 e16_ o12_ rfl b14_
    have f18_ : pvFr fp_eX10_undo_124 M M15_ := pvfr_u e16_ f13_ rfl
    have b19_ : 0 ≤ Int32.toInt (M15_.1 124 50) ∧ Int32.toInt (M15_.1 124 50) ≤ 999999 := pvok_r o17_ 124 50 rfl
    refine pw_blkw hT 4 (pc := 42) (lo := [some (pvR 124), none]) (st := []) (M := pvu M15_ 124 2 (M15_.1 124 50)) rfl ⟨trivial, trivial, rfl, rfl, trivial⟩ (fun M20_ e21_ => ?_)
    have o22_ : pvOk M20_ := pvok_u2 e21_ o17_ rfl b19_
    have f23_ : pvFr fp_eX10_undo_124 M M20_ := pvfr_u e21_ f18_ rfl
    have b24_ : 0 ≤ Int32.toInt (M20_.1 124 51) ∧ Int32.toInt (M20_.1 124 51) ≤ 108 := pvok_r o22_ 124 51 rfl
    refine pw_blkw hT 4 (pc := 50) (lo := [some (pvR 124), none]) (st := []) (M := pvu M20_ 124 3 (M20_.1 124 51)) rfl ⟨trivial, trivial, rfl, rfl, trivial⟩ (fun M25_ e26_ => ?_)
    have o27_ : pvOk M25_ := pvok_u2 e26_ o22_ rfl b24_
    have f28_ : pvFr fp_eX10_undo_124 M M25_ := pvfr_u e26_ f23_ rfl
    have b29_ : 0 ≤ Int32.toInt (M25_.1 124 52) ∧ Int32.toInt (M25_.1 124 52) ≤ 4 := pvok_r o27_ 124 52 rfl
    refine pw_blkw hT 4 (pc := 58) (lo := [some (pvR 124), none]) (st := []) (M := pvu M25_ 124 4 (M25_.1 124 52)) rfl ⟨trivial, trivial, rfl, rfl, trivial⟩ (fun M30_ e31_ => ?_)
    have o32_ : pvOk M30_ := pvok_u2 e31_ o27_ rfl b29_
    have f33_ : pvFr fp_eX10_undo_124 M M30_ := pvfr_u e31_ f28_ rfl
    have b34_ : 0 ≤ Int32.toInt (M30_.1 124 53) ∧ Int32.toInt (M30_.1 124 53) ≤ 3 := pvok_r o32_ 124 53 rfl
    refine pw_blkw hT 4 (pc := 66) (lo := [some (pvR 124), none]) (st := []) (M := pvu M30_ 124 5 (M30_.1 124 53)) rfl ⟨trivial, trivial, rfl, rfl, trivial⟩ (fun M35_ e36_ => ?_)
    have o37_ : pvOk M35_ := pvok_u2 e36_ o32_ rfl b34_
    have f38_ : pvFr fp_eX10_undo_124 M M35_ := pvfr_u e36_ f33_ rfl
    have b39_ : 0 ≤ Int32.toInt (M35_.1 124 54) ∧ Int32.toInt (M35_.1 124 54) ≤ 4 := pvok_r o37_ 124 54 rfl
    refine pw_blkw hT 4 (pc := 74) (lo := [some (pvR 124), none]) (st := []) (M := pvu M35_ 124 6 (M35_.1 124 54)) rfl ⟨trivial, trivial, rfl, rfl, trivial⟩ (fun M40_ e41_ => ?_)
    have o42_ : pvOk M40_ := pvok_u2 e41_ o37_ rfl b39_
    have f43_ : pvFr fp_eX10_undo_124 M M40_ := pvfr_u e41_ f38_ rfl
    have b44_ : 0 ≤ Int32.toInt (M40_.1 124 55) ∧ Int32.toInt (M40_.1 124 55) ≤ 7 := pvok_r o42_ 124 55 rfl
    refine pw_blkw hT 4 (pc := 82) (lo := [some (pvR 124), none]) (st := []) (M := pvu M40_ 124 37 (M40_.1 124 55)) rfl ⟨trivial, trivial, rfl, rfl, trivial⟩ (fun M45_ e46_ => ?_)
    have o47_ : pvOk M45_ := pvok_u2 e46_ o42_ rfl b44_
    have f48_ : pvFr fp_eX10_undo_124 M M45_ := pvfr_u e46_ f43_ rfl
    have b49_ : 0 ≤ Int32.toInt (M45_.1 124 56) ∧ Int32.toInt (M45_.1 124 56) ≤ 6 := pvok_r o47_ 124 56 rfl
    refine pw_blkw hT 4 (pc := 90) (lo := [some (pvR 124), none]) (st := []) (M := pvu M45_ 124 40 (M45_.1 124 56)) rfl ⟨trivial, trivial, rfl, rfl, trivial⟩ (fun M50_ e51_ => ?_)
    have o52_ : pvOk M50_ := pvok_u2 e51_ o47_ rfl b49_
    have f53_ : pvFr fp_eX10_undo_124 M M50_ := pvfr_u e51_ f48_ rfl
    have b54_ : 0 ≤ Int32.toInt (M50_.1 124 57) ∧ Int32.toInt (M50_.1 124 57) ≤ 8 := pvok_r o52_ 124 57 rfl
    refine pw_blkw hT 4 (pc := 98) (lo := [some (pvR 124), none]) (st := []) (M := pvu M50_ 124 43 (M50_.1 124 57)) rfl ⟨trivial, trivial, rfl, rfl, trivial⟩ (fun M55_ e56_ => ?_)
    have o57_ : pvOk M55_ := pvok_u2 e56_ o52_ rfl b54_
    have f58_ : pvFr fp_eX10_undo_124 M M55_ := pvfr_u e56_ f53_ rfl
    refine pw_blk hT 2 (S' := (100, [some (pvR 124), some (pvI 0)], [], M55_)) rfl ⟨trivial, trivial, trivial⟩ ?_
    have e59_ : (M55_.1 124 46) = (M.1 124 46) := (((((((((((pvu_n e56_ 124 46 (Or.inr (by decide))).trans (pvu_n e51_ 124 46 (Or.inr (by decide)))).trans (pvu_n e46_ 124 46 (Or.inr (by decide)))).trans (pvu_n e41_ 124 46 (Or.inr (by decide)))).trans (pvu_n e36_ 124 46 (Or.inr (by decide)))).trans (pvu_n e31_ 124 46 (Or.inr (by decide)))).trans (pvu_n e26_ 124 46 (Or.inr (by decide)))).trans (pvu_n e21_ 124 46 (Or.inr (by decide)))).trans (pvu_n e16_ 124 46 (Or.inr (by decide)))).trans (pvu_n e11_ 124 46 (Or.inr (by decide)))).trans (pvu_n e6_ 124 46 (Or.inr (by decide))))
    have b60_ : 1 ≤ Int32.toInt (M55_.1 124 46) ∧ Int32.toInt (M55_.1 124 46) ≤ 1 := (by rw [e59_]; exact b3_)
    have hlz5978_ : ∀ (nz5978_ : Nat) (i1z5978_ : Int32) (Mz5978_ : pvM), (pvOk Mz5978_) → (pvFr fp_eX10_undo_124 M Mz5978_) → (Mz5978_.1 124 46 = M55_.1 124 46) → (0 ≤ Int32.toInt i1z5978_ ∧ Int32.toInt i1z5978_ ≤ 7) → (Int32.toInt (Mz5978_.1 124 15) = Int32.toInt (M.1 124 47)) → (Int32.toInt (Mz5978_.1 124 3) = Int32.toInt (M.1 124 51)) → (Mz5978_.1 124 0 = (M.1 124 48)) → (Mz5978_.1 124 3 = (M.1 124 51)) → (Mz5978_.1 124 4 = (M.1 124 52)) → (Mz5978_.1 124 40 = (M.1 124 56)) → (Mz5978_.1 124 43 = (M.1 124 57)) → (zhide ((8 - Int32.toInt i1z5978_).toNat < nz5978_)) → PW 94 d (100, [some (pvR 124), some (pvI i1z5978_)], [], Mz5978_) (fun r X => (∃ x : Int32, r = some (pvI x) ∧ ((-3) ≤ Int32.toInt x ∧ Int32.toInt x ≤ 7) ∧ x = (if (M.1 124 46) = 0 then (-3) else (M.1 124 48))) ∧ pvOk X ∧ pvFr fp_eX10_undo_124 M X ∧ ((pvWF M → pvWF X) ∧ (Int32.toInt (M.1 124 51) ≤ 99 → Int32.toInt (M.1 124 3) ≤ 99 → Int32.toInt (X.1 124 3) ≤ 99)) ∧ X.1 124 0 = (if (M.1 124 46) = 0 then (M.1 124 0) else (M.1 124 48)) ∧ X.1 124 3 = (if (M.1 124 46) = 0 then (M.1 124 3) else (M.1 124 51)) ∧ X.1 124 4 = (if (M.1 124 46) = 0 then (M.1 124 4) else (M.1 124 52)) ∧ X.1 124 40 = (if (M.1 124 46) = 0 then (M.1 124 40) else (M.1 124 56)) ∧ X.1 124 43 = (if (M.1 124 46) = 0 then (M.1 124 43) else (M.1 124 57))) := by
      intro nz5978_
      induction nz5978_ with
      | zero => intro i1z5978_ Mz5978_ oz5978_ fz5978_ k124_46z5978_ h1z5978_ j0z5978_ j1z5978_ j2z5978_ j3z5978_ j4z5978_ j5z5978_ j6z5978_ hmz5978_; exact absurd (zshow hmz5978_) (Nat.not_lt_zero _)
      | succ nz5978_ ihz5978_ =>
        intro i1z5978_ Mz5978_ oz5978_ fz5978_ k124_46z5978_ h1z5978_ j0z5978_ j1z5978_ j2z5978_ j3z5978_ j4z5978_ j5z5978_ j6z5978_ hmz5978_
        have b5979_ : (-1) ≤ Int32.toInt (Mz5978_.1 124 15) ∧ Int32.toInt (Mz5978_.1 124 15) ≤ 5 := pvok_r oz5978_ 124 15 rfl
        have b5980_ : 0 ≤ Int32.toInt (Mz5978_.1 124 3) ∧ Int32.toInt (Mz5978_.1 124 3) ≤ 108 := pvok_r oz5978_ 124 3 rfl
        refine pw_blk hT 2 (S' := (103, [some (pvR 124), some (pvI i1z5978_)], [pvI 7, pvI i1z5978_], Mz5978_)) rfl ⟨trivial, trivial, trivial⟩ ?_
        refine pw_ic hT (c := 7 ≤ i1z5978_) rfl rfl (fun c5981_ => ?_) (fun c5981_ => ?_)
        · have b5982_ : 7 ≤ Int32.toInt i1z5978_ ∧ Int32.toInt i1z5978_ ≤ 7 := zr_le_r 7 c5981_ h1z5978_ (show 7 ≤ Int32.toInt 7 ∧ Int32.toInt 7 ≤ 7 from (by decide)) (by decide)
          refine pw_blk hT 2 (S' := (198, [some (pvR 124), some (pvI 0)], [], Mz5978_)) rfl ⟨trivial, trivial, trivial⟩ ?_
          have e5983_ : (Mz5978_.1 124 46) = (M55_.1 124 46) := (k124_46z5978_)
          have b5984_ : 1 ≤ Int32.toInt (Mz5978_.1 124 46) ∧ Int32.toInt (Mz5978_.1 124 46) ≤ 1 := (by rw [e5983_]; exact b60_)
          have hlz7417_ : ∀ (nz7417_ : Nat) (i1z7417_ : Int32) (Mz7417_ : pvM), (pvOk Mz7417_) → (pvFr fp_eX10_undo_124 M Mz7417_) → (Mz7417_.1 124 46 = Mz5978_.1 124 46) → (0 ≤ Int32.toInt i1z7417_ ∧ Int32.toInt i1z7417_ ≤ 28) → (Int32.toInt (Mz7417_.1 124 15) = Int32.toInt (M.1 124 47)) → (Int32.toInt (Mz7417_.1 124 3) = Int32.toInt (M.1 124 51)) → (Mz7417_.1 124 0 = (M.1 124 48)) → (Mz7417_.1 124 3 = (M.1 124 51)) → (Mz7417_.1 124 4 = (M.1 124 52)) → (Mz7417_.1 124 40 = (M.1 124 56)) → (Mz7417_.1 124 43 = (M.1 124 57)) → (zhide ((29 - Int32.toInt i1z7417_).toNat < nz7417_)) → PW 94 d (198, [some (pvR 124), some (pvI i1z7417_)], [], Mz7417_) (fun r X => (∃ x : Int32, r = some (pvI x) ∧ ((-3) ≤ Int32.toInt x ∧ Int32.toInt x ≤ 7) ∧ x = (if (M.1 124 46) = 0 then (-3) else (M.1 124 48))) ∧ pvOk X ∧ pvFr fp_eX10_undo_124 M X ∧ ((pvWF M → pvWF X) ∧ (Int32.toInt (M.1 124 51) ≤ 99 → Int32.toInt (M.1 124 3) ≤ 99 → Int32.toInt (X.1 124 3) ≤ 99)) ∧ X.1 124 0 = (if (M.1 124 46) = 0 then (M.1 124 0) else (M.1 124 48)) ∧ X.1 124 3 = (if (M.1 124 46) = 0 then (M.1 124 3) else (M.1 124 51)) ∧ X.1 124 4 = (if (M.1 124 46) = 0 then (M.1 124 4) else (M.1 124 52)) ∧ X.1 124 40 = (if (M.1 124 46) = 0 then (M.1 124 40) else (M.1 124 56)) ∧ X.1 124 43 = (if (M.1 124 46) = 0 then (M.1 124 43) else (M.1 124 57))) := by
            intro nz7417_
            induction nz7417_ with
            | zero => intro i1z7417_ Mz7417_ oz7417_ fz7417_ k124_46z7417_ h1z7417_ j0z7417_ j1z7417_ j2z7417_ j3z7417_ j4z7417_ j5z7417_ j6z7417_ hmz7417_; exact absurd (zshow hmz7417_) (Nat.not_lt_zero _)
            | succ nz7417_ ihz7417_ =>
              intro i1z7417_ Mz7417_ oz7417_ fz7417_ k124_46z7417_ h1z7417_ j0z7417_ j1z7417_ j2z7417_ j3z7417_ j4z7417_ j5z7417_ j6z7417_ hmz7417_
              have b7418_ : (-1) ≤ Int32.toInt (Mz7417_.1 124 15) ∧ Int32.toInt (Mz7417_.1 124 15) ≤ 5 := pvok_r oz7417_ 124 15 rfl
              have b7419_ : 0 ≤ Int32.toInt (Mz7417_.1 124 3) ∧ Int32.toInt (Mz7417_.1 124 3) ≤ 108 := pvok_r oz7417_ 124 3 rfl
              refine pw_blk hT 2 (S' := (201, [some (pvR 124), some (pvI i1z7417_)], [pvI 28, pvI i1z7417_], Mz7417_)) rfl ⟨trivial, trivial, trivial⟩ ?_
              refine pw_ic hT (c := 28 ≤ i1z7417_) rfl rfl (fun c7420_ => ?_) (fun c7420_ => ?_)
              · have b7421_ : 28 ≤ Int32.toInt i1z7417_ ∧ Int32.toInt i1z7417_ ≤ 28 := zr_le_r 28 c7420_ h1z7417_ (show 28 ≤ Int32.toInt 28 ∧ Int32.toInt 28 ≤ 28 from (by decide)) (by decide)
                refine pw_blk hT 2 (S' := (224, [some (pvR 124), some (pvI 0)], [], Mz7417_)) rfl ⟨trivial, trivial, trivial⟩ ?_
                have e7422_ : (Mz7417_.1 124 46) = (Mz5978_.1 124 46) := (k124_46z7417_)
                have b7423_ : 1 ≤ Int32.toInt (Mz7417_.1 124 46) ∧ Int32.toInt (Mz7417_.1 124 46) ≤ 1 := (by rw [e7422_]; exact b5984_)
                have hlz7766_ : ∀ (nz7766_ : Nat) (i1z7766_ : Int32) (Mz7766_ : pvM), (pvOk Mz7766_) → (pvFr fp_eX10_undo_124 M Mz7766_) → (Mz7766_.1 124 46 = Mz7417_.1 124 46) → (0 ≤ Int32.toInt i1z7766_ ∧ Int32.toInt i1z7766_ ≤ 6) → (Int32.toInt (Mz7766_.1 124 15) = Int32.toInt (M.1 124 47)) → (Int32.toInt (Mz7766_.1 124 3) = Int32.toInt (M.1 124 51)) → (Mz7766_.1 124 0 = (M.1 124 48)) → (Mz7766_.1 124 3 = (M.1 124 51)) → (Mz7766_.1 124 4 = (M.1 124 52)) → (Mz7766_.1 124 40 = (M.1 124 56)) → (Mz7766_.1 124 43 = (M.1 124 57)) → (zhide ((7 - Int32.toInt i1z7766_).toNat < nz7766_)) → PW 94 d (224, [some (pvR 124), some (pvI i1z7766_)], [], Mz7766_) (fun r X => (∃ x : Int32, r = some (pvI x) ∧ ((-3) ≤ Int32.toInt x ∧ Int32.toInt x ≤ 7) ∧ x = (if (M.1 124 46) = 0 then (-3) else (M.1 124 48))) ∧ pvOk X ∧ pvFr fp_eX10_undo_124 M X ∧ ((pvWF M → pvWF X) ∧ (Int32.toInt (M.1 124 51) ≤ 99 → Int32.toInt (M.1 124 3) ≤ 99 → Int32.toInt (X.1 124 3) ≤ 99)) ∧ X.1 124 0 = (if (M.1 124 46) = 0 then (M.1 124 0) else (M.1 124 48)) ∧ X.1 124 3 = (if (M.1 124 46) = 0 then (M.1 124 3) else (M.1 124 51)) ∧ X.1 124 4 = (if (M.1 124 46) = 0 then (M.1 124 4) else (M.1 124 52)) ∧ X.1 124 40 = (if (M.1 124 46) = 0 then (M.1 124 40) else (M.1 124 56)) ∧ X.1 124 43 = (if (M.1 124 46) = 0 then (M.1 124 43) else (M.1 124 57))) := by
                  intro nz7766_
                  induction nz7766_ with
                  | zero => intro i1z7766_ Mz7766_ oz7766_ fz7766_ k124_46z7766_ h1z7766_ j0z7766_ j1z7766_ j2z7766_ j3z7766_ j4z7766_ j5z7766_ j6z7766_ hmz7766_; exact absurd (zshow hmz7766_) (Nat.not_lt_zero _)
                  | succ nz7766_ ihz7766_ =>
                    intro i1z7766_ Mz7766_ oz7766_ fz7766_ k124_46z7766_ h1z7766_ j0z7766_ j1z7766_ j2z7766_ j3z7766_ j4z7766_ j5z7766_ j6z7766_ hmz7766_
                    have b7767_ : (-1) ≤ Int32.toInt (Mz7766_.1 124 15) ∧ Int32.toInt (Mz7766_.1 124 15) ≤ 5 := pvok_r oz7766_ 124 15 rfl
                    have b7768_ : 0 ≤ Int32.toInt (Mz7766_.1 124 3) ∧ Int32.toInt (Mz7766_.1 124 3) ≤ 108 := pvok_r oz7766_ 124 3 rfl
                    refine pw_blk hT 2 (S' := (227, [some (pvR 124), some (pvI i1z7766_)], [pvI 6, pvI i1z7766_], Mz7766_)) rfl ⟨trivial, trivial, trivial⟩ ?_
                    refine pw_ic hT (c := 6 ≤ i1z7766_) rfl rfl (fun c7769_ => ?_) (fun c7769_ => ?_)
                    · have b7770_ : 6 ≤ Int32.toInt i1z7766_ ∧ Int32.toInt i1z7766_ ≤ 6 := zr_le_r 6 c7769_ h1z7766_ (show 6 ≤ Int32.toInt 6 ∧ Int32.toInt 6 ≤ 6 from (by decide)) (by decide)
                      refine pw_blk hT 2 (S' := (262, [some (pvR 124), some (pvI 0)], [], Mz7766_)) rfl ⟨trivial, trivial, trivial⟩ ?_
                      have e7771_ : (Mz7766_.1 124 46) = (Mz7417_.1 124 46) := (k124_46z7766_)
                      have b7772_ : 1 ≤ Int32.toInt (Mz7766_.1 124 46) ∧ Int32.toInt (Mz7766_.1 124 46) ≤ 1 := (by rw [e7771_]; exact b7423_)
                      have hlz7838_ : ∀ (nz7838_ : Nat) (i1z7838_ : Int32) (Mz7838_ : pvM), (pvOk Mz7838_) → (pvFr fp_eX10_undo_124 M Mz7838_) → (Mz7838_.1 124 46 = Mz7766_.1 124 46) → (0 ≤ Int32.toInt i1z7838_ ∧ Int32.toInt i1z7838_ ≤ 8) → (Int32.toInt (Mz7838_.1 124 15) = Int32.toInt (M.1 124 47)) → (Int32.toInt (Mz7838_.1 124 3) = Int32.toInt (M.1 124 51)) → (Mz7838_.1 124 0 = (M.1 124 48)) → (Mz7838_.1 124 3 = (M.1 124 51)) → (Mz7838_.1 124 4 = (M.1 124 52)) → (Mz7838_.1 124 40 = (M.1 124 56)) → (Mz7838_.1 124 43 = (M.1 124 57)) → (zhide ((9 - Int32.toInt i1z7838_).toNat < nz7838_)) → PW 94 d (262, [some (pvR 124), some (pvI i1z7838_)], [], Mz7838_) (fun r X => (∃ x : Int32, r = some (pvI x) ∧ ((-3) ≤ Int32.toInt x ∧ Int32.toInt x ≤ 7) ∧ x = (if (M.1 124 46) = 0 then (-3) else (M.1 124 48))) ∧ pvOk X ∧ pvFr fp_eX10_undo_124 M X ∧ ((pvWF M → pvWF X) ∧ (Int32.toInt (M.1 124 51) ≤ 99 → Int32.toInt (M.1 124 3) ≤ 99 → Int32.toInt (X.1 124 3) ≤ 99)) ∧ X.1 124 0 = (if (M.1 124 46) = 0 then (M.1 124 0) else (M.1 124 48)) ∧ X.1 124 3 = (if (M.1 124 46) = 0 then (M.1 124 3) else (M.1 124 51)) ∧ X.1 124 4 = (if (M.1 124 46) = 0 then (M.1 124 4) else (M.1 124 52)) ∧ X.1 124 40 = (if (M.1 124 46) = 0 then (M.1 124 40) else (M.1 124 56)) ∧ X.1 124 43 = (if (M.1 124 46) = 0 then (M.1 124 43) else (M.1 124 57))) := by
                        intro nz7838_
                        induction nz7838_ with
                        | zero => intro i1z7838_ Mz7838_ oz7838_ fz7838_ k124_46z7838_ h1z7838_ j0z7838_ j1z7838_ j2z7838_ j3z7838_ j4z7838_ j5z7838_ j6z7838_ hmz7838_; exact absurd (zshow hmz7838_) (Nat.not_lt_zero _)
                        | succ nz7838_ ihz7838_ =>
                          intro i1z7838_ Mz7838_ oz7838_ fz7838_ k124_46z7838_ h1z7838_ j0z7838_ j1z7838_ j2z7838_ j3z7838_ j4z7838_ j5z7838_ j6z7838_ hmz7838_
                          have b7839_ : (-1) ≤ Int32.toInt (Mz7838_.1 124 15) ∧ Int32.toInt (Mz7838_.1 124 15) ≤ 5 := pvok_r oz7838_ 124 15 rfl
                          have b7840_ : 0 ≤ Int32.toInt (Mz7838_.1 124 3) ∧ Int32.toInt (Mz7838_.1 124 3) ≤ 108 := pvok_r oz7838_ 124 3 rfl
                          refine pw_blk hT 2 (S' := (265, [some (pvR 124), some (pvI i1z7838_)], [pvI 8, pvI i1z7838_], Mz7838_)) rfl ⟨trivial, trivial, trivial⟩ ?_
                          refine pw_ic hT (c := 8 ≤ i1z7838_) rfl rfl (fun c7841_ => ?_) (fun c7841_ => ?_)
                          · have b7842_ : 8 ≤ Int32.toInt i1z7838_ ∧ Int32.toInt i1z7838_ ≤ 8 := zr_le_r 8 c7841_ h1z7838_ (show 8 ≤ Int32.toInt 8 ∧ Int32.toInt 8 ≤ 8 from (by decide)) (by decide)
                            have b7843_ : 0 ≤ Int32.toInt (Mz7838_.1 124 0) ∧ Int32.toInt (Mz7838_.1 124 0) ≤ 7 := pvok_r oz7838_ 124 0 rfl
                            refine pw_blk hT 2 (S' := (302, [some (pvR 124), some (pvI i1z7838_)], [pvI (Mz7838_.1 124 0)], Mz7838_)) rfl ⟨trivial, rfl, trivial⟩ ?_
                            exact pw_ret hT rfl (r := some (pvI (Mz7838_.1 124 0))) (M' := Mz7838_) ⟨rfl, rfl⟩ ⟨⟨_, rfl, (zr_wide b7843_ (by decide) (by decide)), (by rw [if_neg c2_]; first | done | exact (show (Mz7838_.1 124 0) = (M.1 124 48) from by rw [j2z7838_]) | (rw [if_neg c2_]; exact (show (Mz7838_.1 124 0) = (M.1 124 48) from by rw [j2z7838_])))⟩, oz7838_, fz7838_, ⟨fun hz => ⟨by have z3 := hz.1; have z4 := hz.2.1; have w0 : Int32.toInt (Mz7838_.1 124 14) = Int32.toInt (M.1 124 14) := congrArg Int32.toInt (fz7838_ 124 14 rfl); omega, by have z3 := hz.1; have z4 := hz.2.1; have w0 : Int32.toInt (Mz7838_.1 124 14) = Int32.toInt (M.1 124 14) := congrArg Int32.toInt (fz7838_ 124 14 rfl); have v0 : Int32.toInt (Mz7838_.1 124 47) = Int32.toInt (M.1 124 47) := congrArg Int32.toInt (fz7838_ 124 47 rfl); omega, fun a ha => pvWh_r (pvfr_row (L := fpL_eX10_undo_124) fz7838_ rfl) (pvfr_row (L := fpL_eX10_undo_124) fz7838_ rfl) (pvfr_row (L := fpL_eX10_undo_124) fz7838_ rfl) (pvfr_row (L := fpL_eX10_undo_124) fz7838_ rfl) (pvfr_row (L := fpL_eX10_undo_124) fz7838_ rfl) (hz.2.2 a (by have w0 : Int32.toInt (Mz7838_.1 124 14) = Int32.toInt (M.1 124 14) := congrArg Int32.toInt (fz7838_ 124 14 rfl); omega))⟩, fun hc hc2 => by omega⟩, (by rw [if_neg c2_]; first | done | exact j2z7838_ | (rw [if_neg c2_]; done) | (rw [if_neg c2_]; exact j2z7838_)), (by rw [if_neg c2_]; first | done | exact j3z7838_ | (rw [if_neg c2_]; done) | (rw [if_neg c2_]; exact j3z7838_)), (by rw [if_neg c2_]; first | done | exact j4z7838_ | (rw [if_neg c2_]; done) | (rw [if_neg c2_]; exact j4z7838_)), (by rw [if_neg c2_]; first | done | exact j5z7838_ | (rw [if_neg c2_]; done) | (rw [if_neg c2_]; exact j5z7838_)), (by rw [if_neg c2_]; first | done | exact j6z7838_ | (rw [if_neg c2_]; done) | (rw [if_neg c2_]; exact j6z7838_))⟩
                          · have b7844_ : 0 ≤ Int32.toInt i1z7838_ ∧ Int32.toInt i1z7838_ ≤ 7 := zr_nle_r 7 c7841_ h1z7838_ (show 8 ≤ Int32.toInt 8 ∧ Int32.toInt 8 ≤ 8 from (by decide)) (by decide)
                            have b7845_ : 0 ≤ Int32.toInt (Mz7838_.1 160 (Int32.toNatClampNeg i1z7838_)) ∧ Int32.toInt (Mz7838_.1 160 (Int32.toNatClampNeg i1z7838_)) ≤ 6 := pvok_r oz7838_ 160 (Int32.toNatClampNeg i1z7838_) rfl
                            refine pw_blkw hT 8 (pc := 280) (lo := [some (pvR 124), some (pvI i1z7838_)]) (st := []) (M := pvu Mz7838_ 149 (Int32.toNatClampNeg i1z7838_) (Mz7838_.1 160 (Int32.toNatClampNeg i1z7838_))) rfl ⟨trivial, rfl, trivial, trivial, rfl, trivial, ⟨rfl, (zr_in (n := 8) b7844_ (by decide) (by decide))⟩, ⟨rfl, (zr_in (n := 8) b7844_ (by decide) (by decide))⟩, trivial⟩ (fun M7846_ e7847_ => ?_)
                            have o7848_ : pvOk M7846_ := pvok_u2 e7847_ oz7838_ rfl b7845_
                            have f7849_ : pvFr fp_eX10_undo_124 M M7846_ := pvfr_u e7847_ fz7838_ rfl
                            have b7850_ : 0 ≤ Int32.toInt (M7846_.1 161 (Int32.toNatClampNeg i1z7838_)) ∧ Int32.toInt (M7846_.1 161 (Int32.toNatClampNeg i1z7838_)) ≤ 9999 := pvok_r o7848_ 161 (Int32.toNatClampNeg i1z7838_) rfl
                            refine pw_blkw hT 8 (pc := 292) (lo := [some (pvR 124), some (pvI i1z7838_)]) (st := []) (M := pvu M7846_ 150 (Int32.toNatClampNeg i1z7838_) (M7846_.1 161 (Int32.toNatClampNeg i1z7838_))) rfl ⟨trivial, rfl, trivial, trivial, rfl, trivial, ⟨rfl, (zr_in (n := 8) b7844_ (by decide) (by decide))⟩, ⟨rfl, (zr_in (n := 8) b7844_ (by decide) (by decide))⟩, trivial⟩ (fun M7851_ e7852_ => ?_)
                            have o7853_ : pvOk M7851_ := pvok_u2 e7852_ o7848_ rfl b7850_
                            have f7854_ : pvFr fp_eX10_undo_124 M M7851_ := pvfr_u e7852_ f7849_ rfl
                            obtain ⟨q7856_, b7855_⟩ : (Int32.toInt (i1z7838_ + 1) = Int32.toInt i1z7838_ + 1) ∧ (1 ≤ Int32.toInt (i1z7838_ + 1) ∧ Int32.toInt (i1z7838_ + 1) ≤ 8) := zadd_k i1z7838_ 1 1 1 8 b7844_ (by decide) (by decide) (by decide) (by decide) (by decide)
                            refine pw_blk hT 2 (S' := (262, [some (pvR 124), some (pvI (i1z7838_ + 1))], [], M7851_)) rfl ⟨trivial, trivial, trivial⟩ ?_
                            have j7857_ : Int32.toInt (M7851_.1 124 15) = Int32.toInt (M.1 124 47) := (by have y01 : Int32.toInt (M7851_.1 124 15) = Int32.toInt (Mz7838_.1 124 15) := congrArg Int32.toInt ((pvu_n e7852_ 124 15 (Or.inl (by decide))).trans (pvu_n e7847_ 124 15 (Or.inl (by decide)))); omega)
                            have j7858_ : Int32.toInt (M7851_.1 124 3) = Int32.toInt (M.1 124 51) := (by have y01 : Int32.toInt (M7851_.1 124 3) = Int32.toInt (Mz7838_.1 124 3) := congrArg Int32.toInt ((pvu_n e7852_ 124 3 (Or.inl (by decide))).trans (pvu_n e7847_ 124 3 (Or.inl (by decide)))); omega)
                            have j7859_ : M7851_.1 124 0 = (M.1 124 48) := (((pvu_n e7852_ 124 0 (Or.inl (by decide))).trans (pvu_n e7847_ 124 0 (Or.inl (by decide)))).trans (j2z7838_))
                            have j7860_ : M7851_.1 124 3 = (M.1 124 51) := (((pvu_n e7852_ 124 3 (Or.inl (by decide))).trans (pvu_n e7847_ 124 3 (Or.inl (by decide)))).trans (j3z7838_))
                            have j7861_ : M7851_.1 124 4 = (M.1 124 52) := (((pvu_n e7852_ 124 4 (Or.inl (by decide))).trans (pvu_n e7847_ 124 4 (Or.inl (by decide)))).trans (j4z7838_))
                            have j7862_ : M7851_.1 124 40 = (M.1 124 56) := (((pvu_n e7852_ 124 40 (Or.inl (by decide))).trans (pvu_n e7847_ 124 40 (Or.inl (by decide)))).trans (j5z7838_))
                            have j7863_ : M7851_.1 124 43 = (M.1 124 57) := (((pvu_n e7852_ 124 43 (Or.inl (by decide))).trans (pvu_n e7847_ 124 43 (Or.inl (by decide)))).trans (j6z7838_))
                            exact ihz7838_ (i1z7838_ + 1) M7851_ o7853_ f7854_ (((pvu_n e7852_ 124 46 (Or.inl (by decide))).trans (pvu_n e7847_ 124 46 (Or.inl (by decide)))).trans (k124_46z7838_)) (zr_wide b7855_ (by decide) (by decide)) j7857_ j7858_ j7859_ j7860_ j7861_ j7862_ j7863_ (zhid (by have hm0 := zshow hmz7838_; have y01 : Int32.toInt (M7851_.1 124 15) = Int32.toInt (Mz7838_.1 124 15) := congrArg Int32.toInt ((pvu_n e7852_ 124 15 (Or.inl (by decide))).trans (pvu_n e7847_ 124 15 (Or.inl (by decide)))); have y11 : Int32.toInt (M7851_.1 124 3) = Int32.toInt (Mz7838_.1 124 3) := congrArg Int32.toInt ((pvu_n e7852_ 124 3 (Or.inl (by decide))).trans (pvu_n e7847_ 124 3 (Or.inl (by decide)))); omega))
                      have u7864_ : Int32.toInt 0 = 0 := by decide
                      have j7865_ : Int32.toInt (Mz7766_.1 124 15) = Int32.toInt (M.1 124 47) := (by omega)
                      have j7866_ : Int32.toInt (Mz7766_.1 124 3) = Int32.toInt (M.1 124 51) := (by omega)
                      have j7867_ : Mz7766_.1 124 0 = (M.1 124 48) := j2z7766_
                      have j7868_ : Mz7766_.1 124 3 = (M.1 124 51) := j3z7766_
                      have j7869_ : Mz7766_.1 124 4 = (M.1 124 52) := j4z7766_
                      have j7870_ : Mz7766_.1 124 40 = (M.1 124 56) := j5z7766_
                      have j7871_ : Mz7766_.1 124 43 = (M.1 124 57) := j6z7766_
                      exact hlz7838_ _ 0 Mz7766_ oz7766_ fz7766_ rfl (zr_wide (show 0 ≤ Int32.toInt 0 ∧ Int32.toInt 0 ≤ 0 from (by decide)) (by decide) (by decide)) j7865_ j7866_ j7867_ j7868_ j7869_ j7870_ j7871_ (zhid (Nat.lt_succ_self _))
                    · have b7872_ : 0 ≤ Int32.toInt i1z7766_ ∧ Int32.toInt i1z7766_ ≤ 5 := zr_nle_r 5 c7769_ h1z7766_ (show 6 ≤ Int32.toInt 6 ∧ Int32.toInt 6 ≤ 6 from (by decide)) (by decide)
                      have b7873_ : 0 ≤ Int32.toInt (Mz7766_.1 158 (Int32.toNatClampNeg i1z7766_)) ∧ Int32.toInt (Mz7766_.1 158 (Int32.toNatClampNeg i1z7766_)) ≤ 6 := pvok_r oz7766_ 158 (Int32.toNatClampNeg i1z7766_) rfl
                      refine pw_blkw hT 8 (pc := 242) (lo := [some (pvR 124), some (pvI i1z7766_)]) (st := []) (M := pvu Mz7766_ 147 (Int32.toNatClampNeg i1z7766_) (Mz7766_.1 158 (Int32.toNatClampNeg i1z7766_))) rfl ⟨trivial, rfl, trivial, trivial, rfl, trivial, ⟨rfl, (zr_in (n := 6) b7872_ (by decide) (by decide))⟩, ⟨rfl, (zr_in (n := 6) b7872_ (by decide) (by decide))⟩, trivial⟩ (fun M7874_ e7875_ => ?_)
                      have o7876_ : pvOk M7874_ := pvok_u2 e7875_ oz7766_ rfl b7873_
                      have f7877_ : pvFr fp_eX10_undo_124 M M7874_ := pvfr_u e7875_ fz7766_ rfl
                      have b7878_ : 0 ≤ Int32.toInt (M7874_.1 159 (Int32.toNatClampNeg i1z7766_)) ∧ Int32.toInt (M7874_.1 159 (Int32.toNatClampNeg i1z7766_)) ≤ 9999 := pvok_r o7876_ 159 (Int32.toNatClampNeg i1z7766_) rfl
                      refine pw_blkw hT 8 (pc := 254) (lo := [some (pvR 124), some (pvI i1z7766_)]) (st := []) (M := pvu M7874_ 148 (Int32.toNatClampNeg i1z7766_) (M7874_.1 159 (Int32.toNatClampNeg i1z7766_))) rfl ⟨trivial, rfl, trivial, trivial, rfl, trivial, ⟨rfl, (zr_in (n := 6) b7872_ (by decide) (by decide))⟩, ⟨rfl, (zr_in (n := 6) b7872_ (by decide) (by decide))⟩, trivial⟩ (fun M7879_ e7880_ => ?_)
                      have o7881_ : pvOk M7879_ := pvok_u2 e7880_ o7876_ rfl b7878_
                      have f7882_ : pvFr fp_eX10_undo_124 M M7879_ := pvfr_u e7880_ f7877_ rfl
                      obtain ⟨q7884_, b7883_⟩ : (Int32.toInt (i1z7766_ + 1) = Int32.toInt i1z7766_ + 1) ∧ (1 ≤ Int32.toInt (i1z7766_ + 1) ∧ Int32.toInt (i1z7766_ + 1) ≤ 6) := zadd_k i1z7766_ 1 1 1 6 b7872_ (by decide) (by decide) (by decide) (by decide) (by decide)
                      refine pw_blk hT 2 (S' := (224, [some (pvR 124), some (pvI (i1z7766_ + 1))], [], M7879_)) rfl ⟨trivial, trivial, trivial⟩ ?_
                      have j7885_ : Int32.toInt (M7879_.1 124 15) = Int32.toInt (M.1 124 47) := (by have y01 : Int32.toInt (M7879_.1 124 15) = Int32.toInt (Mz7766_.1 124 15) := congrArg Int32.toInt ((pvu_n e7880_ 124 15 (Or.inl (by decide))).trans (pvu_n e7875_ 124 15 (Or.inl (by decide)))); omega)
                      have j7886_ : Int32.toInt (M7879_.1 124 3) = Int32.toInt (M.1 124 51) := (by have y01 : Int32.toInt (M7879_.1 124 3) = Int32.toInt (Mz7766_.1 124 3) := congrArg Int32.toInt ((pvu_n e7880_ 124 3 (Or.inl (by decide))).trans (pvu_n e7875_ 124 3 (Or.inl (by decide)))); omega)
                      have j7887_ : M7879_.1 124 0 = (M.1 124 48) := (((pvu_n e7880_ 124 0 (Or.inl (by decide))).trans (pvu_n e7875_ 124 0 (Or.inl (by decide)))).trans (j2z7766_))
                      have j7888_ : M7879_.1 124 3 = (M.1 124 51) := (((pvu_n e7880_ 124 3 (Or.inl (by decide))).trans (pvu_n e7875_ 124 3 (Or.inl (by decide)))).trans (j3z7766_))
                      have j7889_ : M7879_.1 124 4 = (M.1 124 52) := (((pvu_n e7880_ 124 4 (Or.inl (by decide))).trans (pvu_n e7875_ 124 4 (Or.inl (by decide)))).trans (j4z7766_))
                      have j7890_ : M7879_.1 124 40 = (M.1 124 56) := (((pvu_n e7880_ 124 40 (Or.inl (by decide))).trans (pvu_n e7875_ 124 40 (Or.inl (by decide)))).trans (j5z7766_))
                      have j7891_ : M7879_.1 124 43 = (M.1 124 57) := (((pvu_n e7880_ 124 43 (Or.inl (by decide))).trans (pvu_n e7875_ 124 43 (Or.inl (by decide)))).trans (j6z7766_))
                      exact ihz7766_ (i1z7766_ + 1) M7879_ o7881_ f7882_ (((pvu_n e7880_ 124 46 (Or.inl (by decide))).trans (pvu_n e7875_ 124 46 (Or.inl (by decide)))).trans (k124_46z7766_)) (zr_wide b7883_ (by decide) (by decide)) j7885_ j7886_ j7887_ j7888_ j7889_ j7890_ j7891_ (zhid (by have hm0 := zshow hmz7766_; have y01 : Int32.toInt (M7879_.1 124 15) = Int32.toInt (Mz7766_.1 124 15) := congrArg Int32.toInt ((pvu_n e7880_ 124 15 (Or.inl (by decide))).trans (pvu_n e7875_ 124 15 (Or.inl (by decide)))); have y11 : Int32.toInt (M7879_.1 124 3) = Int32.toInt (Mz7766_.1 124 3) := congrArg Int32.toInt ((pvu_n e7880_ 124 3 (Or.inl (by decide))).trans (pvu_n e7875_ 124 3 (Or.inl (by decide)))); omega))
                have u7892_ : Int32.toInt 0 = 0 := by decide
                have j7893_ : Int32.toInt (Mz7417_.1 124 15) = Int32.toInt (M.1 124 47) := (by omega)
                have j7894_ : Int32.toInt (Mz7417_.1 124 3) = Int32.toInt (M.1 124 51) := (by omega)
                have j7895_ : Mz7417_.1 124 0 = (M.1 124 48) := j2z7417_
                have j7896_ : Mz7417_.1 124 3 = (M.1 124 51) := j3z7417_
                have j7897_ : Mz7417_.1 124 4 = (M.1 124 52) := j4z7417_
                have j7898_ : Mz7417_.1 124 40 = (M.1 124 56) := j5z7417_
                have j7899_ : Mz7417_.1 124 43 = (M.1 124 57) := j6z7417_
                exact hlz7766_ _ 0 Mz7417_ oz7417_ fz7417_ rfl (zr_wide (show 0 ≤ Int32.toInt 0 ∧ Int32.toInt 0 ≤ 0 from (by decide)) (by decide) (by decide)) j7893_ j7894_ j7895_ j7896_ j7897_ j7898_ j7899_ (zhid (Nat.lt_succ_self _))
              · have b7900_ : 0 ≤ Int32.toInt i1z7417_ ∧ Int32.toInt i1z7417_ ≤ 27 := zr_nle_r 27 c7420_ h1z7417_ (show 28 ≤ Int32.toInt 28 ∧ Int32.toInt 28 ≤ 28 from (by decide)) (by decide)
                have b7901_ : 0 ≤ Int32.toInt (Mz7417_.1 156 (Int32.toNatClampNeg i1z7417_)) ∧ Int32.toInt (Mz7417_.1 156 (Int32.toNatClampNeg i1z7417_)) ≤ 9 := pvok_r oz7417_ 156 (Int32.toNatClampNeg i1z7417_) rfl
                refine pw_blkw hT 8 (pc := 216) (lo := [some (pvR 124), some (pvI i1z7417_)]) (st := []) (M := pvu Mz7417_ 130 (Int32.toNatClampNeg i1z7417_) (Mz7417_.1 156 (Int32.toNatClampNeg i1z7417_))) rfl ⟨trivial, rfl, trivial, trivial, rfl, trivial, ⟨rfl, (zr_in (n := 28) b7900_ (by decide) (by decide))⟩, ⟨rfl, (zr_in (n := 28) b7900_ (by decide) (by decide))⟩, trivial⟩ (fun M7902_ e7903_ => ?_)
                have o7904_ : pvOk M7902_ := pvok_u2 e7903_ oz7417_ rfl b7901_
                have f7905_ : pvFr fp_eX10_undo_124 M M7902_ := pvfr_u e7903_ fz7417_ rfl
                obtain ⟨q7907_, b7906_⟩ : (Int32.toInt (i1z7417_ + 1) = Int32.toInt i1z7417_ + 1) ∧ (1 ≤ Int32.toInt (i1z7417_ + 1) ∧ Int32.toInt (i1z7417_ + 1) ≤ 28) := zadd_k i1z7417_ 1 1 1 28 b7900_ (by decide) (by decide) (by decide) (by decide) (by decide)
                refine pw_blk hT 2 (S' := (198, [some (pvR 124), some (pvI (i1z7417_ + 1))], [], M7902_)) rfl ⟨trivial, trivial, trivial⟩ ?_
                have j7908_ : Int32.toInt (M7902_.1 124 15) = Int32.toInt (M.1 124 47) := (by have y01 : Int32.toInt (M7902_.1 124 15) = Int32.toInt (Mz7417_.1 124 15) := congrArg Int32.toInt (pvu_n e7903_ 124 15 (Or.inl (by decide))); omega)
                have j7909_ : Int32.toInt (M7902_.1 124 3) = Int32.toInt (M.1 124 51) := (by have y01 : Int32.toInt (M7902_.1 124 3) = Int32.toInt (Mz7417_.1 124 3) := congrArg Int32.toInt (pvu_n e7903_ 124 3 (Or.inl (by decide))); omega)
                have j7910_ : M7902_.1 124 0 = (M.1 124 48) := ((pvu_n e7903_ 124 0 (Or.inl (by decide))).trans (j2z7417_))
                have j7911_ : M7902_.1 124 3 = (M.1 124 51) := ((pvu_n e7903_ 124 3 (Or.inl (by decide))).trans (j3z7417_))
                have j7912_ : M7902_.1 124 4 = (M.1 124 52) := ((pvu_n e7903_ 124 4 (Or.inl (by decide))).trans (j4z7417_))
                have j7913_ : M7902_.1 124 40 = (M.1 124 56) := ((pvu_n e7903_ 124 40 (Or.inl (by decide))).trans (j5z7417_))
                have j7914_ : M7902_.1 124 43 = (M.1 124 57) := ((pvu_n e7903_ 124 43 (Or.inl (by decide))).trans (j6z7417_))
                exact ihz7417_ (i1z7417_ + 1) M7902_ o7904_ f7905_ ((pvu_n e7903_ 124 46 (Or.inl (by decide))).trans (k124_46z7417_)) (zr_wide b7906_ (by decide) (by decide)) j7908_ j7909_ j7910_ j7911_ j7912_ j7913_ j7914_ (zhid (by have hm0 := zshow hmz7417_; have y01 : Int32.toInt (M7902_.1 124 15) = Int32.toInt (Mz7417_.1 124 15) := congrArg Int32.toInt (pvu_n e7903_ 124 15 (Or.inl (by decide))); have y11 : Int32.toInt (M7902_.1 124 3) = Int32.toInt (Mz7417_.1 124 3) := congrArg Int32.toInt (pvu_n e7903_ 124 3 (Or.inl (by decide))); omega))
          have u7915_ : Int32.toInt 0 = 0 := by decide
          have j7916_ : Int32.toInt (Mz5978_.1 124 15) = Int32.toInt (M.1 124 47) := (by omega)
          have j7917_ : Int32.toInt (Mz5978_.1 124 3) = Int32.toInt (M.1 124 51) := (by omega)
          have j7918_ : Mz5978_.1 124 0 = (M.1 124 48) := j2z5978_
          have j7919_ : Mz5978_.1 124 3 = (M.1 124 51) := j3z5978_
          have j7920_ : Mz5978_.1 124 4 = (M.1 124 52) := j4z5978_
          have j7921_ : Mz5978_.1 124 40 = (M.1 124 56) := j5z5978_
          have j7922_ : Mz5978_.1 124 43 = (M.1 124 57) := j6z5978_
          exact hlz7417_ _ 0 Mz5978_ oz5978_ fz5978_ rfl (zr_wide (show 0 ≤ Int32.toInt 0 ∧ Int32.toInt 0 ≤ 0 from (by decide)) (by decide) (by decide)) j7916_ j7917_ j7918_ j7919_ j7920_ j7921_ j7922_ (zhid (Nat.lt_succ_self _))
        · have b7923_ : 0 ≤ Int32.toInt i1z5978_ ∧ Int32.toInt i1z5978_ ≤ 6 := zr_nle_r 6 c5981_ h1z5978_ (show 7 ≤ Int32.toInt 7 ∧ Int32.toInt 7 ≤ 7 from (by decide)) (by decide)
          have b7924_ : 0 ≤ Int32.toInt (Mz5978_.1 151 (Int32.toNatClampNeg i1z5978_)) ∧ Int32.toInt (Mz5978_.1 151 (Int32.toNatClampNeg i1z5978_)) ≤ 6 := pvok_r oz5978_ 151 (Int32.toNatClampNeg i1z5978_) rfl
          refine pw_blkw hT 8 (pc := 118) (lo := [some (pvR 124), some (pvI i1z5978_)]) (st := []) (M := pvu Mz5978_ 125 (Int32.toNatClampNeg i1z5978_) (Mz5978_.1 151 (Int32.toNatClampNeg i1z5978_))) rfl ⟨trivial, rfl, trivial, trivial, rfl, trivial, ⟨rfl, (zr_in (n := 7) b7923_ (by decide) (by decide))⟩, ⟨rfl, (zr_in (n := 7) b7923_ (by decide) (by decide))⟩, trivial⟩ (fun M7925_ e7926_ => ?_)
          have o7927_ : pvOk M7925_ := pvok_u2 e7926_ oz5978_ rfl b7924_
          have f7928_ : pvFr fp_eX10_undo_124 M M7925_ := pvfr_u e7926_ fz5978_ rfl
          have b7929_ : 0 ≤ Int32.toInt (M7925_.1 152 (Int32.toNatClampNeg i1z5978_)) ∧ Int32.toInt (M7925_.1 152 (Int32.toNatClampNeg i1z5978_)) ≤ 9 := pvok_r o7927_ 152 (Int32.toNatClampNeg i1z5978_) rfl
          refine pw_blkw hT 8 (pc := 130) (lo := [some (pvR 124), some (pvI i1z5978_)]) (st := []) (M := pvu M7925_ 126 (Int32.toNatClampNeg i1z5978_) (M7925_.1 152 (Int32.toNatClampNeg i1z5978_))) rfl ⟨trivial, rfl, trivial, trivial, rfl, trivial, ⟨rfl, (zr_in (n := 7) b7923_ (by decide) (by decide))⟩, ⟨rfl, (zr_in (n := 7) b7923_ (by decide) (by decide))⟩, trivial⟩ (fun M7930_ e7931_ => ?_)
          have o7932_ : pvOk M7930_ := pvok_u2 e7931_ o7927_ rfl b7929_
          have f7933_ : pvFr fp_eX10_undo_124 M M7930_ := pvfr_u e7931_ f7928_ rfl
          have b7934_ : 0 ≤ Int32.toInt (M7930_.1 153 (Int32.toNatClampNeg i1z5978_)) ∧ Int32.toInt (M7930_.1 153 (Int32.toNatClampNeg i1z5978_)) ≤ 3 := pvok_r o7932_ 153 (Int32.toNatClampNeg i1z5978_) rfl
          refine pw_blkw hT 8 (pc := 142) (lo := [some (pvR 124), some (pvI i1z5978_)]) (st := []) (M := pvu M7930_ 127 (Int32.toNatClampNeg i1z5978_) (M7930_.1 153 (Int32.toNatClampNeg i1z5978_))) rfl ⟨trivial, rfl, trivial, trivial, rfl, trivial, ⟨rfl, (zr_in (n := 7) b7923_ (by decide) (by decide))⟩, ⟨rfl, (zr_in (n := 7) b7923_ (by decide) (by decide))⟩, trivial⟩ (fun M7935_ e7936_ => ?_)
          have o7937_ : pvOk M7935_ := pvok_u2 e7936_ o7932_ rfl b7934_
          have f7938_ : pvFr fp_eX10_undo_124 M M7935_ := pvfr_u e7936_ f7933_ rfl
          have b7939_ : 0 ≤ Int32.toInt (M7935_.1 154 (Int32.toNatClampNeg i1z5978_)) ∧ Int32.toInt (M7935_.1 154 (Int32.toNatClampNeg i1z5978_)) ≤ 4 := pvok_r o7937_ 154 (Int32.toNatClampNeg i1z5978_) rfl
          refine pw_blkw hT 8 (pc := 154) (lo := [some (pvR 124), some (pvI i1z5978_)]) (st := []) (M := pvu M7935_ 128 (Int32.toNatClampNeg i1z5978_) (M7935_.1 154 (Int32.toNatClampNeg i1z5978_))) rfl ⟨trivial, rfl, trivial, trivial, rfl, trivial, ⟨rfl, (zr_in (n := 7) b7923_ (by decide) (by decide))⟩, ⟨rfl, (zr_in (n := 7) b7923_ (by decide) (by decide))⟩, trivial⟩ (fun M7940_ e7941_ => ?_)
          have o7942_ : pvOk M7940_ := pvok_u2 e7941_ o7937_ rfl b7939_
          have f7943_ : pvFr fp_eX10_undo_124 M M7940_ := pvfr_u e7941_ f7938_ rfl
          have b7944_ : 0 ≤ Int32.toInt (M7940_.1 155 (Int32.toNatClampNeg i1z5978_)) ∧ Int32.toInt (M7940_.1 155 (Int32.toNatClampNeg i1z5978_)) ≤ 9 := pvok_r o7942_ 155 (Int32.toNatClampNeg i1z5978_) rfl
          refine pw_blkw hT 8 (pc := 166) (lo := [some (pvR 124), some (pvI i1z5978_)]) (st := []) (M := pvu M7940_ 129 (Int32.toNatClampNeg i1z5978_) (M7940_.1 155 (Int32.toNatClampNeg i1z5978_))) rfl ⟨trivial, rfl, trivial, trivial, rfl, trivial, ⟨rfl, (zr_in (n := 7) b7923_ (by decide) (by decide))⟩, ⟨rfl, (zr_in (n := 7) b7923_ (by decide) (by decide))⟩, trivial⟩ (fun M7945_ e7946_ => ?_)
          have o7947_ : pvOk M7945_ := pvok_u2 e7946_ o7942_ rfl b7944_
          have f7948_ : pvFr fp_eX10_undo_124 M M7945_ := pvfr_u e7946_ f7943_ rfl
          have b7949_ : 0 ≤ Int32.toInt (M7945_.1 162 (Int32.toNatClampNeg i1z5978_)) ∧ Int32.toInt (M7945_.1 162 (Int32.toNatClampNeg i1z5978_)) ≤ 1 := pvok_r o7947_ 162 (Int32.toNatClampNeg i1z5978_) rfl
          refine pw_blkw hT 8 (pc := 178) (lo := [some (pvR 124), some (pvI i1z5978_)]) (st := []) (M := pvu M7945_ 131 (Int32.toNatClampNeg i1z5978_) (vp_nar .boolean (M7945_.1 162 (Int32.toNatClampNeg i1z5978_)))) rfl ⟨trivial, rfl, trivial, trivial, rfl, trivial, ⟨rfl, (zr_in (n := 7) b7923_ (by decide) (by decide))⟩, ⟨rfl, (zr_in (n := 7) b7923_ (by decide) (by decide))⟩, trivial⟩ (fun M7950_ e7951_ => ?_)
          have o7952_ : pvOk M7950_ := pvok_u2 e7951_ o7947_ rfl (zboolr (M7945_.1 162 (Int32.toNatClampNeg i1z5978_)))
          have f7953_ : pvFr fp_eX10_undo_124 M M7950_ := pvfr_u e7951_ f7948_ rfl
          have b7954_ : 0 ≤ Int32.toInt (M7950_.1 157 (Int32.toNatClampNeg i1z5978_)) ∧ Int32.toInt (M7950_.1 157 (Int32.toNatClampNeg i1z5978_)) ≤ 6 := pvok_r o7952_ 157 (Int32.toNatClampNeg i1z5978_) rfl
          refine pw_blkw hT 8 (pc := 190) (lo := [some (pvR 124), some (pvI i1z5978_)]) (st := []) (M := pvu M7950_ 145 (Int32.toNatClampNeg i1z5978_) (M7950_.1 157 (Int32.toNatClampNeg i1z5978_))) rfl ⟨trivial, rfl, trivial, trivial, rfl, trivial, ⟨rfl, (zr_in (n := 7) b7923_ (by decide) (by decide))⟩, ⟨rfl, (zr_in (n := 7) b7923_ (by decide) (by decide))⟩, trivial⟩ (fun M7955_ e7956_ => ?_)
          have o7957_ : pvOk M7955_ := pvok_u2 e7956_ o7952_ rfl b7954_
          have f7958_ : pvFr fp_eX10_undo_124 M M7955_ := pvfr_u e7956_ f7953_ rfl
          obtain ⟨q7960_, b7959_⟩ : (Int32.toInt (i1z5978_ + 1) = Int32.toInt i1z5978_ + 1) ∧ (1 ≤ Int32.toInt (i1z5978_ + 1) ∧ Int32.toInt (i1z5978_ + 1) ≤ 7) := zadd_k i1z5978_ 1 1 1 7 b7923_ (by decide) (by decide) (by decide) (by decide) (by decide)
          refine pw_blk hT 2 (S' := (100, [some (pvR 124), some (pvI (i1z5978_ + 1))], [], M7955_)) rfl ⟨trivial, trivial, trivial⟩ ?_
          have j7961_ : Int32.toInt (M7955_.1 124 15) = Int32.toInt (M.1 124 47) := (by have y01 : Int32.toInt (M7955_.1 124 15) = Int32.toInt (Mz5978_.1 124 15) := congrArg Int32.toInt (((((((pvu_n e7956_ 124 15 (Or.inl (by decide))).trans (pvu_n e7951_ 124 15 (Or.inl (by decide)))).trans (pvu_n e7946_ 124 15 (Or.inl (by decide)))).trans (pvu_n e7941_ 124 15 (Or.inl (by decide)))).trans (pvu_n e7936_ 124 15 (Or.inl (by decide)))).trans (pvu_n e7931_ 124 15 (Or.inl (by decide)))).trans (pvu_n e7926_ 124 15 (Or.inl (by decide)))); omega)
          have j7962_ : Int32.toInt (M7955_.1 124 3) = Int32.toInt (M.1 124 51) := (by have y01 : Int32.toInt (M7955_.1 124 3) = Int32.toInt (Mz5978_.1 124 3) := congrArg Int32.toInt (((((((pvu_n e7956_ 124 3 (Or.inl (by decide))).trans (pvu_n e7951_ 124 3 (Or.inl (by decide)))).trans (pvu_n e7946_ 124 3 (Or.inl (by decide)))).trans (pvu_n e7941_ 124 3 (Or.inl (by decide)))).trans (pvu_n e7936_ 124 3 (Or.inl (by decide)))).trans (pvu_n e7931_ 124 3 (Or.inl (by decide)))).trans (pvu_n e7926_ 124 3 (Or.inl (by decide)))); omega)
          have j7963_ : M7955_.1 124 0 = (M.1 124 48) := ((((((((pvu_n e7956_ 124 0 (Or.inl (by decide))).trans (pvu_n e7951_ 124 0 (Or.inl (by decide)))).trans (pvu_n e7946_ 124 0 (Or.inl (by decide)))).trans (pvu_n e7941_ 124 0 (Or.inl (by decide)))).trans (pvu_n e7936_ 124 0 (Or.inl (by decide)))).trans (pvu_n e7931_ 124 0 (Or.inl (by decide)))).trans (pvu_n e7926_ 124 0 (Or.inl (by decide)))).trans (j2z5978_))
          have j7964_ : M7955_.1 124 3 = (M.1 124 51) := ((((((((pvu_n e7956_ 124 3 (Or.inl (by decide))).trans (pvu_n e7951_ 124 3 (Or.inl (by decide)))).trans (pvu_n e7946_ 124 3 (Or.inl (by decide)))).trans (pvu_n e7941_ 124 3 (Or.inl (by decide)))).trans (pvu_n e7936_ 124 3 (Or.inl (by decide)))).trans (pvu_n e7931_ 124 3 (Or.inl (by decide)))).trans (pvu_n e7926_ 124 3 (Or.inl (by decide)))).trans (j3z5978_))
          have j7965_ : M7955_.1 124 4 = (M.1 124 52) := ((((((((pvu_n e7956_ 124 4 (Or.inl (by decide))).trans (pvu_n e7951_ 124 4 (Or.inl (by decide)))).trans (pvu_n e7946_ 124 4 (Or.inl (by decide)))).trans (pvu_n e7941_ 124 4 (Or.inl (by decide)))).trans (pvu_n e7936_ 124 4 (Or.inl (by decide)))).trans (pvu_n e7931_ 124 4 (Or.inl (by decide)))).trans (pvu_n e7926_ 124 4 (Or.inl (by decide)))).trans (j4z5978_))
          have j7966_ : M7955_.1 124 40 = (M.1 124 56) := ((((((((pvu_n e7956_ 124 40 (Or.inl (by decide))).trans (pvu_n e7951_ 124 40 (Or.inl (by decide)))).trans (pvu_n e7946_ 124 40 (Or.inl (by decide)))).trans (pvu_n e7941_ 124 40 (Or.inl (by decide)))).trans (pvu_n e7936_ 124 40 (Or.inl (by decide)))).trans (pvu_n e7931_ 124 40 (Or.inl (by decide)))).trans (pvu_n e7926_ 124 40 (Or.inl (by decide)))).trans (j5z5978_))
          have j7967_ : M7955_.1 124 43 = (M.1 124 57) := ((((((((pvu_n e7956_ 124 43 (Or.inl (by decide))).trans (pvu_n e7951_ 124 43 (Or.inl (by decide)))).trans (pvu_n e7946_ 124 43 (Or.inl (by decide)))).trans (pvu_n e7941_ 124 43 (Or.inl (by decide)))).trans (pvu_n e7936_ 124 43 (Or.inl (by decide)))).trans (pvu_n e7931_ 124 43 (Or.inl (by decide)))).trans (pvu_n e7926_ 124 43 (Or.inl (by decide)))).trans (j6z5978_))
          exact ihz5978_ (i1z5978_ + 1) M7955_ o7957_ f7958_ ((((((((pvu_n e7956_ 124 46 (Or.inl (by decide))).trans (pvu_n e7951_ 124 46 (Or.inl (by decide)))).trans (pvu_n e7946_ 124 46 (Or.inl (by decide)))).trans (pvu_n e7941_ 124 46 (Or.inl (by decide)))).trans (pvu_n e7936_ 124 46 (Or.inl (by decide)))).trans (pvu_n e7931_ 124 46 (Or.inl (by decide)))).trans (pvu_n e7926_ 124 46 (Or.inl (by decide)))).trans (k124_46z5978_)) (zr_wide b7959_ (by decide) (by decide)) j7961_ j7962_ j7963_ j7964_ j7965_ j7966_ j7967_ (zhid (by have hm0 := zshow hmz5978_; have y01 : Int32.toInt (M7955_.1 124 15) = Int32.toInt (Mz5978_.1 124 15) := congrArg Int32.toInt (((((((pvu_n e7956_ 124 15 (Or.inl (by decide))).trans (pvu_n e7951_ 124 15 (Or.inl (by decide)))).trans (pvu_n e7946_ 124 15 (Or.inl (by decide)))).trans (pvu_n e7941_ 124 15 (Or.inl (by decide)))).trans (pvu_n e7936_ 124 15 (Or.inl (by decide)))).trans (pvu_n e7931_ 124 15 (Or.inl (by decide)))).trans (pvu_n e7926_ 124 15 (Or.inl (by decide)))); have y11 : Int32.toInt (M7955_.1 124 3) = Int32.toInt (Mz5978_.1 124 3) := congrArg Int32.toInt (((((((pvu_n e7956_ 124 3 (Or.inl (by decide))).trans (pvu_n e7951_ 124 3 (Or.inl (by decide)))).trans (pvu_n e7946_ 124 3 (Or.inl (by decide)))).trans (pvu_n e7941_ 124 3 (Or.inl (by decide)))).trans (pvu_n e7936_ 124 3 (Or.inl (by decide)))).trans (pvu_n e7931_ 124 3 (Or.inl (by decide)))).trans (pvu_n e7926_ 124 3 (Or.inl (by decide)))); omega))
    have u7968_ : Int32.toInt 0 = 0 := by decide
    have j7969_ : Int32.toInt (M55_.1 124 15) = Int32.toInt (M.1 124 47) := (by have z1 : Int32.toInt (M55_.1 124 15) = Int32.toInt (M.1 124 47) := congrArg Int32.toInt (((((((((((pvu_n e56_ 124 15 (Or.inr (by decide))).trans (pvu_n e51_ 124 15 (Or.inr (by decide)))).trans (pvu_n e46_ 124 15 (Or.inr (by decide)))).trans (pvu_n e41_ 124 15 (Or.inr (by decide)))).trans (pvu_n e36_ 124 15 (Or.inr (by decide)))).trans (pvu_n e31_ 124 15 (Or.inr (by decide)))).trans (pvu_n e26_ 124 15 (Or.inr (by decide)))).trans (pvu_n e21_ 124 15 (Or.inr (by decide)))).trans (pvu_n e16_ 124 15 (Or.inr (by decide)))).trans (pvu_n e11_ 124 15 (Or.inr (by decide)))).trans (pvu_s e6_)); omega)
    have j7970_ : Int32.toInt (M55_.1 124 3) = Int32.toInt (M.1 124 51) := (by have z1 : Int32.toInt (M55_.1 124 3) = Int32.toInt (M20_.1 124 51) := congrArg Int32.toInt (((((((pvu_n e56_ 124 3 (Or.inr (by decide))).trans (pvu_n e51_ 124 3 (Or.inr (by decide)))).trans (pvu_n e46_ 124 3 (Or.inr (by decide)))).trans (pvu_n e41_ 124 3 (Or.inr (by decide)))).trans (pvu_n e36_ 124 3 (Or.inr (by decide)))).trans (pvu_n e31_ 124 3 (Or.inr (by decide)))).trans (pvu_s e26_)); have z2 : Int32.toInt (M20_.1 124 51) = Int32.toInt (M.1 124 51) := congrArg Int32.toInt ((((pvu_n e21_ 124 51 (Or.inr (by decide))).trans (pvu_n e16_ 124 51 (Or.inr (by decide)))).trans (pvu_n e11_ 124 51 (Or.inr (by decide)))).trans (pvu_n e6_ 124 51 (Or.inr (by decide)))); omega)
    have j7971_ : M55_.1 124 0 = (M.1 124 48) := (((((((((((pvu_n e56_ 124 0 (Or.inr (by decide))).trans (pvu_n e51_ 124 0 (Or.inr (by decide)))).trans (pvu_n e46_ 124 0 (Or.inr (by decide)))).trans (pvu_n e41_ 124 0 (Or.inr (by decide)))).trans (pvu_n e36_ 124 0 (Or.inr (by decide)))).trans (pvu_n e31_ 124 0 (Or.inr (by decide)))).trans (pvu_n e26_ 124 0 (Or.inr (by decide)))).trans (pvu_n e21_ 124 0 (Or.inr (by decide)))).trans (pvu_n e16_ 124 0 (Or.inr (by decide)))).trans (pvu_s e11_)).trans (pvu_n e6_ 124 48 (Or.inr (by decide))))
    have j7972_ : M55_.1 124 3 = (M.1 124 51) := ((((((((pvu_n e56_ 124 3 (Or.inr (by decide))).trans (pvu_n e51_ 124 3 (Or.inr (by decide)))).trans (pvu_n e46_ 124 3 (Or.inr (by decide)))).trans (pvu_n e41_ 124 3 (Or.inr (by decide)))).trans (pvu_n e36_ 124 3 (Or.inr (by decide)))).trans (pvu_n e31_ 124 3 (Or.inr (by decide)))).trans (pvu_s e26_)).trans ((((pvu_n e21_ 124 51 (Or.inr (by decide))).trans (pvu_n e16_ 124 51 (Or.inr (by decide)))).trans (pvu_n e11_ 124 51 (Or.inr (by decide)))).trans (pvu_n e6_ 124 51 (Or.inr (by decide)))))
    have j7973_ : M55_.1 124 4 = (M.1 124 52) := (((((((pvu_n e56_ 124 4 (Or.inr (by decide))).trans (pvu_n e51_ 124 4 (Or.inr (by decide)))).trans (pvu_n e46_ 124 4 (Or.inr (by decide)))).trans (pvu_n e41_ 124 4 (Or.inr (by decide)))).trans (pvu_n e36_ 124 4 (Or.inr (by decide)))).trans (pvu_s e31_)).trans (((((pvu_n e26_ 124 52 (Or.inr (by decide))).trans (pvu_n e21_ 124 52 (Or.inr (by decide)))).trans (pvu_n e16_ 124 52 (Or.inr (by decide)))).trans (pvu_n e11_ 124 52 (Or.inr (by decide)))).trans (pvu_n e6_ 124 52 (Or.inr (by decide)))))
    have j7974_ : M55_.1 124 40 = (M.1 124 56) := (((pvu_n e56_ 124 40 (Or.inr (by decide))).trans (pvu_s e51_)).trans (((((((((pvu_n e46_ 124 56 (Or.inr (by decide))).trans (pvu_n e41_ 124 56 (Or.inr (by decide)))).trans (pvu_n e36_ 124 56 (Or.inr (by decide)))).trans (pvu_n e31_ 124 56 (Or.inr (by decide)))).trans (pvu_n e26_ 124 56 (Or.inr (by decide)))).trans (pvu_n e21_ 124 56 (Or.inr (by decide)))).trans (pvu_n e16_ 124 56 (Or.inr (by decide)))).trans (pvu_n e11_ 124 56 (Or.inr (by decide)))).trans (pvu_n e6_ 124 56 (Or.inr (by decide)))))
    have j7975_ : M55_.1 124 43 = (M.1 124 57) := ((pvu_s e56_).trans ((((((((((pvu_n e51_ 124 57 (Or.inr (by decide))).trans (pvu_n e46_ 124 57 (Or.inr (by decide)))).trans (pvu_n e41_ 124 57 (Or.inr (by decide)))).trans (pvu_n e36_ 124 57 (Or.inr (by decide)))).trans (pvu_n e31_ 124 57 (Or.inr (by decide)))).trans (pvu_n e26_ 124 57 (Or.inr (by decide)))).trans (pvu_n e21_ 124 57 (Or.inr (by decide)))).trans (pvu_n e16_ 124 57 (Or.inr (by decide)))).trans (pvu_n e11_ 124 57 (Or.inr (by decide)))).trans (pvu_n e6_ 124 57 (Or.inr (by decide)))))
    exact hlz5978_ _ 0 M55_ o57_ f58_ rfl (zr_wide (show 0 ≤ Int32.toInt 0 ∧ Int32.toInt 0 ≤ 0 from (by decide)) (by decide) (by decide)) j7969_ j7970_ j7971_ j7972_ j7973_ j7974_ j7975_ (zhid (Nat.lt_succ_self _))
  · have b7976_ : 0 ≤ Int32.toInt (M.1 124 46) ∧ Int32.toInt (M.1 124 46) ≤ 0 := (by have u0 := b1_; have u1 := (zi_eq _ _).mp c2_; have u2 := (show 0 ≤ Int32.toInt 0 ∧ Int32.toInt 0 ≤ 0 from (by decide)); omega)
    refine pw_blk hT 1 (S' := (9, [some (pvR 124), none], [pvI (-3)], M)) rfl ⟨trivial, trivial⟩ ?_
    exact pw_ret hT rfl (r := some (pvI (-3))) (M' := M) ⟨rfl, rfl⟩ ⟨⟨_, rfl, (zr_wide (show (-3) ≤ Int32.toInt (-3) ∧ Int32.toInt (-3) ≤ (-3) from (by decide)) (by decide) (by decide)), (by rw [if_pos c2_]; first | done | (rw [if_pos c2_]; done))⟩, hok, pvfr_0, ⟨fun hz => ⟨by have z3 := hz.1; have z4 := hz.2.1; omega, by have z3 := hz.1; have z4 := hz.2.1; omega, fun a ha => pvWh_r rfl rfl rfl rfl rfl (hz.2.2 a (by omega))⟩, fun hc hc2 => by omega⟩, (by rw [if_pos c2_]; first | done | exact rfl | (rw [if_pos c2_]; done) | (rw [if_pos c2_]; exact rfl)), (by rw [if_pos c2_]; first | done | exact rfl | (rw [if_pos c2_]; done) | (rw [if_pos c2_]; exact rfl)), (by rw [if_pos c2_]; first | done | exact rfl | (rw [if_pos c2_]; done) | (rw [if_pos c2_]; exact rfl)), (by rw [if_pos c2_]; first | done | exact rfl | (rw [if_pos c2_]; done) | (rw [if_pos c2_]; exact rfl)), (by rw [if_pos c2_]; first | done | exact rfl | (rw [if_pos c2_]; done) | (rw [if_pos c2_]; exact rfl))⟩
def fpL_eX10_window_124_x_x_x_x_x : List (Nat × Nat × Nat) := [(0, 124, 1), (0, 125, 0), (0, 126, 0), (0, 127, 0), (0, 128, 0), (0, 129, 0), (0, 130, 0), (0, 131, 0)]
def fp_eX10_window_124_x_x_x_x_x (q k : Nat) : Bool := pvfp fpL_eX10_window_124_x_x_x_x_x q k
set_option maxHeartbeats 4000000 in
set_option maxRecDepth 10000 in
theorem se_X10_window_124_x_x_x_x_x (M : pvM) (hok : pvOk M) (n1 : Int32) (n2 : Int32) (n3 : Int32) (n4 : Int32) (n5 : Int32) (d : Nat) : PW 97 d (0, [some (pvR 124), some (pvI n1), some (pvI n2), some (pvI n3), some (pvI n4), some (pvI n5), none], [], M) (fun r X => (∃ x : Int32, r = some (pvI x) ∧ ((-4) ≤ Int32.toInt x ∧ Int32.toInt x ≤ 6) ∧ x = (if n1 < 0 then (-1) else (if 6 < n1 then (-1) else (if n2 < 0 then (-2) else (if 9 < n2 then (-2) else (if n3 < 0 then (-2) else (if 3 < n3 then (-2) else (if n4 < 0 then (-2) else (if 4 < n4 then (-2) else (if n5 < 1 then (-2) else (if 9 < n5 then (-2) else (if (M.1 124 0) = 7 then (-4) else (((M.1 124 0) + 1) - 1))))))))))))) ∧ pvOk X ∧ pvFr fp_eX10_window_124_x_x_x_x_x M X ∧ X.1 124 0 = (if n1 < 0 then (M.1 124 0) else (if 6 < n1 then (M.1 124 0) else (if n2 < 0 then (M.1 124 0) else (if 9 < n2 then (M.1 124 0) else (if n3 < 0 then (M.1 124 0) else (if 3 < n3 then (M.1 124 0) else (if n4 < 0 then (M.1 124 0) else (if 4 < n4 then (M.1 124 0) else (if n5 < 1 then (M.1 124 0) else (if 9 < n5 then (M.1 124 0) else (if (M.1 124 0) = 7 then (M.1 124 0) else ((M.1 124 0) + 1))))))))))))) := by
  have hT : pvdom 97 = pvD_97 := rfl
  refine pw_blk hT 4 (S' := (5, [some (pvR 124), some (pvI n1), some (pvI n2), some (pvI n3), some (pvI n4), some (pvI n5), none], [pvI 6, pvI 0, pvI n1, pvR 124], M)) rfl ⟨trivial, trivial, trivial, trivial, trivial⟩ ?_
  refine pw_callT hT (as := [pvR 124, pvI n1, pvI 0, pvI 6]) (lo1 := [some (pvR 124), some (pvI n1), some (pvI 0), some (pvI 6)]) (d1 := d) (rest := []) rfl rfl rfl rfl rfl (fun _ => rfl) (Nat.zero_le _) rfl rfl rfl (sf_X10_in_124_x_x_x M hok n1 0 6 d) ?_
  by_cases c6_ : n1 < 0
  · refine pw_eqI (if_pos c6_) ?_
    have b7_ : (-2147483648) ≤ Int32.toInt n1 ∧ Int32.toInt n1 ≤ (-1) := zr_lt_l (-1) c6_ (zbnd n1) (show 0 ≤ Int32.toInt 0 ∧ Int32.toInt 0 ≤ 0 from (by decide)) (by decide)
    show PW 97 d (8, [some (pvR 124), some (pvI n1), some (pvI n2), some (pvI n3), some (pvI n4), some (pvI n5), none], [pvI 0], M) _
    refine pw_ifn hT (c := 0 = 0) rfl rfl (fun c8_ => absurd (by decide) c8_) (fun c8_ => ?_)
    refine pw_blk hT 1 (S' := (12, [some (pvR 124), some (pvI n1), some (pvI n2), some (pvI n3), some (pvI n4), some (pvI n5), none], [pvI (-1)], M)) rfl ⟨trivial, trivial⟩ ?_
    exact pw_ret hT rfl (r := some (pvI (-1))) (M' := M) ⟨rfl, rfl⟩ ⟨⟨_, rfl, (zr_wide (show (-1) ≤ Int32.toInt (-1) ∧ Int32.toInt (-1) ≤ (-1) from (by decide)) (by decide) (by decide)), (by rw [if_pos c6_]; first | done | (rw [if_pos c6_]; done))⟩, hok, pvfr_0, (by rw [if_pos c6_]; first | done | exact rfl | (rw [if_pos c6_]; done) | (rw [if_pos c6_]; exact rfl))⟩
  · refine pw_eqI (if_neg c6_) ?_
    have b9_ : 0 ≤ Int32.toInt n1 ∧ Int32.toInt n1 ≤ 2147483647 := zr_nlt_l 0 c6_ (zbnd n1) (show 0 ≤ Int32.toInt 0 ∧ Int32.toInt 0 ≤ 0 from (by decide)) (by decide)
    by_cases c10_ : 6 < n1
    · refine pw_eqI (if_pos c10_) ?_
      have b11_ : 7 ≤ Int32.toInt n1 ∧ Int32.toInt n1 ≤ 2147483647 := zr_lt_r 7 c10_ b9_ (show 6 ≤ Int32.toInt 6 ∧ Int32.toInt 6 ≤ 6 from (by decide)) (by decide)
      show PW 97 d (8, [some (pvR 124), some (pvI n1), some (pvI n2), some (pvI n3), some (pvI n4), some (pvI n5), none], [pvI 0], M) _
      refine pw_ifn hT (c := 0 = 0) rfl rfl (fun c12_ => absurd (by decide) c12_) (fun c12_ => ?_)
      refine pw_blk hT 1 (S' := (12, [some (pvR 124), some (pvI n1), some (pvI n2), some (pvI n3), some (pvI n4), some (pvI n5), none], [pvI (-1)], M)) rfl ⟨trivial, trivial⟩ ?_
      exact pw_ret hT rfl (r := some (pvI (-1))) (M' := M) ⟨rfl, rfl⟩ ⟨⟨_, rfl, (zr_wide (show (-1) ≤ Int32.toInt (-1) ∧ Int32.toInt (-1) ≤ (-1) from (by decide)) (by decide) (by decide)), (by rw [if_neg c6_, if_pos c10_]; first | done | (rw [if_pos c10_]; done))⟩, hok, pvfr_0, (by rw [if_neg c6_, if_pos c10_]; first | done | exact rfl | (rw [if_pos c10_]; done) | (rw [if_pos c10_]; exact rfl))⟩
    · refine pw_eqI (if_neg c10_) ?_
      have b13_ : 0 ≤ Int32.toInt n1 ∧ Int32.toInt n1 ≤ 6 := zr_nlt_r 6 c10_ b9_ (show 6 ≤ Int32.toInt 6 ∧ Int32.toInt 6 ≤ 6 from (by decide)) (by decide)
      show PW 97 d (8, [some (pvR 124), some (pvI n1), some (pvI n2), some (pvI n3), some (pvI n4), some (pvI n5), none], [pvI 1], M) _
      refine pw_ifn hT (c := 1 = 0) rfl rfl (fun c14_ => ?_) (fun c14_ => absurd c14_ (by decide))
      refine pw_blk hT 4 (S' := (18, [some (pvR 124), some (pvI n1), some (pvI n2), some (pvI n3), some (pvI n4), some (pvI n5), none], [pvI 9, pvI 0, pvI n2, pvR 124], M)) rfl ⟨trivial, trivial, trivial, trivial, trivial⟩ ?_
      refine pw_callT hT (as := [pvR 124, pvI n2, pvI 0, pvI 9]) (lo1 := [some (pvR 124), some (pvI n2), some (pvI 0), some (pvI 9)]) (d1 := d) (rest := []) rfl rfl rfl rfl rfl (fun _ => rfl) (Nat.zero_le _) rfl rfl rfl (sf_X10_in_124_x_x_x M hok n2 0 9 d) ?_
      by_cases c20_ : n2 < 0
      · refine pw_eqI (if_pos c20_) ?_
        have b21_ : (-2147483648) ≤ Int32.toInt n2 ∧ Int32.toInt n2 ≤ (-1) := zr_lt_l (-1) c20_ (zbnd n2) (show 0 ≤ Int32.toInt 0 ∧ Int32.toInt 0 ≤ 0 from (by decide)) (by decide)
        show PW 97 d (21, [some (pvR 124), some (pvI n1), some (pvI n2), some (pvI n3), some (pvI n4), some (pvI n5), none], [pvI 0], M) _
        refine pw_if hT (c := 0 = 0) rfl rfl (fun c22_ => ?_) (fun c22_ => absurd (by decide) c22_)
        refine pw_blk hT 1 (S' := (48, [some (pvR 124), some (pvI n1), some (pvI n2), some (pvI n3), some (pvI n4), some (pvI n5), none], [pvI (-2)], M)) rfl ⟨trivial, trivial⟩ ?_
        exact pw_ret hT rfl (r := some (pvI (-2))) (M' := M) ⟨rfl, rfl⟩ ⟨⟨_, rfl, (zr_wide (show (-2) ≤ Int32.toInt (-2) ∧ Int32.toInt (-2) ≤ (-2) from (by decide)) (by decide) (by decide)), (by rw [if_neg c6_, if_neg c10_, if_pos c20_]; first | done | (rw [if_pos c20_]; done))⟩, hok, pvfr_0, (by rw [if_neg c6_, if_neg c10_, if_pos c20_]; first | done | exact rfl | (rw [if_pos c20_]; done) | (rw [if_pos c20_]; exact rfl))⟩
      · refine pw_eqI (if_neg c20_) ?_
        have b23_ : 0 ≤ Int32.toInt n2 ∧ Int32.toInt n2 ≤ 2147483647 := zr_nlt_l 0 c20_ (zbnd n2) (show 0 ≤ Int32.toInt 0 ∧ Int32.toInt 0 ≤ 0 from (by decide)) (by decide)
        by_cases c24_ : 9 < n2
        · refine pw_eqI (if_pos c24_) ?_
          have b25_ : 10 ≤ Int32.toInt n2 ∧ Int32.toInt n2 ≤ 2147483647 := zr_lt_r 10 c24_ b23_ (show 9 ≤ Int32.toInt 9 ∧ Int32.toInt 9 ≤ 9 from (by decide)) (by decide)
          show PW 97 d (21, [some (pvR 124), some (pvI n1), some (pvI n2), some (pvI n3), some (pvI n4), some (pvI n5), none], [pvI 0], M) _
          refine pw_if hT (c := 0 = 0) rfl rfl (fun c26_ => ?_) (fun c26_ => absurd (by decide) c26_)
          refine pw_blk hT 1 (S' := (48, [some (pvR 124), some (pvI n1), some (pvI n2), some (pvI n3), some (pvI n4), some (pvI n5), none], [pvI (-2)], M)) rfl ⟨trivial, trivial⟩ ?_
          exact pw_ret hT rfl (r := some (pvI (-2))) (M' := M) ⟨rfl, rfl⟩ ⟨⟨_, rfl, (zr_wide (show (-2) ≤ Int32.toInt (-2) ∧ Int32.toInt (-2) ≤ (-2) from (by decide)) (by decide) (by decide)), (by rw [if_neg c6_, if_neg c10_, if_neg c20_, if_pos c24_]; first | done | (rw [if_pos c24_]; done))⟩, hok, pvfr_0, (by rw [if_neg c6_, if_neg c10_, if_neg c20_, if_pos c24_]; first | done | exact rfl | (rw [if_pos c24_]; done) | (rw [if_pos c24_]; exact rfl))⟩
        · refine pw_eqI (if_neg c24_) ?_
          have b27_ : 0 ≤ Int32.toInt n2 ∧ Int32.toInt n2 ≤ 9 := zr_nlt_r 9 c24_ b23_ (show 9 ≤ Int32.toInt 9 ∧ Int32.toInt 9 ≤ 9 from (by decide)) (by decide)
          show PW 97 d (21, [some (pvR 124), some (pvI n1), some (pvI n2), some (pvI n3), some (pvI n4), some (pvI n5), none], [pvI 1], M) _
          refine pw_if hT (c := 1 = 0) rfl rfl (fun c28_ => absurd c28_ (by decide)) (fun c28_ => ?_)
          refine pw_blk hT 3 (S' := (28, [some (pvR 124), some (pvI n1), some (pvI n2), some (pvI n3), some (pvI n4), some (pvI n5), none], [pvI n4, pvI n3, pvR 124], M)) rfl ⟨trivial, trivial, trivial, trivial⟩ ?_
          refine pw_callT hT (as := [pvR 124, pvI n3, pvI n4]) (lo1 := [some (pvR 124), some (pvI n3), some (pvI n4)]) (d1 := d) (rest := []) rfl rfl rfl rfl rfl (fun _ => rfl) (Nat.zero_le _) rfl rfl rfl (sf_X10_isPlace_124_x_x M hok n3 n4 d) ?_
          by_cases c34_ : n3 < 0
          · refine pw_eqI (if_pos c34_) ?_
            have b35_ : (-2147483648) ≤ Int32.toInt n3 ∧ Int32.toInt n3 ≤ (-1) := zr_lt_l (-1) c34_ (zbnd n3) (show 0 ≤ Int32.toInt 0 ∧ Int32.toInt 0 ≤ 0 from (by decide)) (by decide)
            show PW 97 d (31, [some (pvR 124), some (pvI n1), some (pvI n2), some (pvI n3), some (pvI n4), some (pvI n5), none], [pvI 0], M) _
            refine pw_if hT (c := 0 = 0) rfl rfl (fun c36_ => ?_) (fun c36_ => absurd (by decide) c36_)
            refine pw_blk hT 1 (S' := (48, [some (pvR 124), some (pvI n1), some (pvI n2), some (pvI n3), some (pvI n4), some (pvI n5), none], [pvI (-2)], M)) rfl ⟨trivial, trivial⟩ ?_
            exact pw_ret hT rfl (r := some (pvI (-2))) (M' := M) ⟨rfl, rfl⟩ ⟨⟨_, rfl, (zr_wide (show (-2) ≤ Int32.toInt (-2) ∧ Int32.toInt (-2) ≤ (-2) from (by decide)) (by decide) (by decide)), (by rw [if_neg c6_, if_neg c10_, if_neg c20_, if_neg c24_, if_pos c34_]; first | done | (rw [if_pos c34_]; done))⟩, hok, pvfr_0, (by rw [if_neg c6_, if_neg c10_, if_neg c20_, if_neg c24_, if_pos c34_]; first | done | exact rfl | (rw [if_pos c34_]; done) | (rw [if_pos c34_]; exact rfl))⟩
          · refine pw_eqI (if_neg c34_) ?_
            have b37_ : 0 ≤ Int32.toInt n3 ∧ Int32.toInt n3 ≤ 2147483647 := zr_nlt_l 0 c34_ (zbnd n3) (show 0 ≤ Int32.toInt 0 ∧ Int32.toInt 0 ≤ 0 from (by decide)) (by decide)
            by_cases c38_ : 3 < n3
            · refine pw_eqI (if_pos c38_) ?_
              have b39_ : 4 ≤ Int32.toInt n3 ∧ Int32.toInt n3 ≤ 2147483647 := zr_lt_r 4 c38_ b37_ (show 3 ≤ Int32.toInt 3 ∧ Int32.toInt 3 ≤ 3 from (by decide)) (by decide)
              show PW 97 d (31, [some (pvR 124), some (pvI n1), some (pvI n2), some (pvI n3), some (pvI n4), some (pvI n5), none], [pvI 0], M) _
              refine pw_if hT (c := 0 = 0) rfl rfl (fun c40_ => ?_) (fun c40_ => absurd (by decide) c40_)
              refine pw_blk hT 1 (S' := (48, [some (pvR 124), some (pvI n1), some (pvI n2), some (pvI n3), some (pvI n4), some (pvI n5), none], [pvI (-2)], M)) rfl ⟨trivial, trivial⟩ ?_
              exact pw_ret hT rfl (r := some (pvI (-2))) (M' := M) ⟨rfl, rfl⟩ ⟨⟨_, rfl, (zr_wide (show (-2) ≤ Int32.toInt (-2) ∧ Int32.toInt (-2) ≤ (-2) from (by decide)) (by decide) (by decide)), (by rw [if_neg c6_, if_neg c10_, if_neg c20_, if_neg c24_, if_neg c34_, if_pos c38_]; first | done | (rw [if_pos c38_]; done))⟩, hok, pvfr_0, (by rw [if_neg c6_, if_neg c10_, if_neg c20_, if_neg c24_, if_neg c34_, if_pos c38_]; first | done | exact rfl | (rw [if_pos c38_]; done) | (rw [if_pos c38_]; exact rfl))⟩
            · refine pw_eqI (if_neg c38_) ?_
              have b41_ : 0 ≤ Int32.toInt n3 ∧ Int32.toInt n3 ≤ 3 := zr_nlt_r 3 c38_ b37_ (show 3 ≤ Int32.toInt 3 ∧ Int32.toInt 3 ≤ 3 from (by decide)) (by decide)
              by_cases c42_ : n4 < 0
              · refine pw_eqI (if_pos c42_) ?_
                have b43_ : (-2147483648) ≤ Int32.toInt n4 ∧ Int32.toInt n4 ≤ (-1) := zr_lt_l (-1) c42_ (zbnd n4) (show 0 ≤ Int32.toInt 0 ∧ Int32.toInt 0 ≤ 0 from (by decide)) (by decide)
                show PW 97 d (31, [some (pvR 124), some (pvI n1), some (pvI n2), some (pvI n3), some (pvI n4), some (pvI n5), none], [pvI 0], M) _
                refine pw_if hT (c := 0 = 0) rfl rfl (fun c44_ => ?_) (fun c44_ => absurd (by decide) c44_)
                refine pw_blk hT 1 (S' := (48, [some (pvR 124), some (pvI n1), some (pvI n2), some (pvI n3), some (pvI n4), some (pvI n5), none], [pvI (-2)], M)) rfl ⟨trivial, trivial⟩ ?_
                exact pw_ret hT rfl (r := some (pvI (-2))) (M' := M) ⟨rfl, rfl⟩ ⟨⟨_, rfl, (zr_wide (show (-2) ≤ Int32.toInt (-2) ∧ Int32.toInt (-2) ≤ (-2) from (by decide)) (by decide) (by decide)), (by rw [if_neg c6_, if_neg c10_, if_neg c20_, if_neg c24_, if_neg c34_, if_neg c38_, if_pos c42_]; first | done | (rw [if_pos c42_]; done))⟩, hok, pvfr_0, (by rw [if_neg c6_, if_neg c10_, if_neg c20_, if_neg c24_, if_neg c34_, if_neg c38_, if_pos c42_]; first | done | exact rfl | (rw [if_pos c42_]; done) | (rw [if_pos c42_]; exact rfl))⟩
              · refine pw_eqI (if_neg c42_) ?_
                have b45_ : 0 ≤ Int32.toInt n4 ∧ Int32.toInt n4 ≤ 2147483647 := zr_nlt_l 0 c42_ (zbnd n4) (show 0 ≤ Int32.toInt 0 ∧ Int32.toInt 0 ≤ 0 from (by decide)) (by decide)
                by_cases c46_ : 4 < n4
                · refine pw_eqI (if_pos c46_) ?_
                  have b47_ : 5 ≤ Int32.toInt n4 ∧ Int32.toInt n4 ≤ 2147483647 := zr_lt_r 5 c46_ b45_ (show 4 ≤ Int32.toInt 4 ∧ Int32.toInt 4 ≤ 4 from (by decide)) (by decide)
                  show PW 97 d (31, [some (pvR 124), some (pvI n1), some (pvI n2), some (pvI n3), some (pvI n4), some (pvI n5), none], [pvI 0], M) _
                  refine pw_if hT (c := 0 = 0) rfl rfl (fun c48_ => ?_) (fun c48_ => absurd (by decide) c48_)
                  refine pw_blk hT 1 (S' := (48, [some (pvR 124), some (pvI n1), some (pvI n2), some (pvI n3), some (pvI n4), some (pvI n5), none], [pvI (-2)], M)) rfl ⟨trivial, trivial⟩ ?_
                  exact pw_ret hT rfl (r := some (pvI (-2))) (M' := M) ⟨rfl, rfl⟩ ⟨⟨_, rfl, (zr_wide (show (-2) ≤ Int32.toInt (-2) ∧ Int32.toInt (-2) ≤ (-2) from (by decide)) (by decide) (by decide)), (by rw [if_neg c6_, if_neg c10_, if_neg c20_, if_neg c24_, if_neg c34_, if_neg c38_, if_neg c42_, if_pos c46_]; first | done | (rw [if_pos c46_]; done))⟩, hok, pvfr_0, (by rw [if_neg c6_, if_neg c10_, if_neg c20_, if_neg c24_, if_neg c34_, if_neg c38_, if_neg c42_, if_pos c46_]; first | done | exact rfl | (rw [if_pos c46_]; done) | (rw [if_pos c46_]; exact rfl))⟩
                · refine pw_eqI (if_neg c46_) ?_
                  have b49_ : 0 ≤ Int32.toInt n4 ∧ Int32.toInt n4 ≤ 4 := zr_nlt_r 4 c46_ b45_ (show 4 ≤ Int32.toInt 4 ∧ Int32.toInt 4 ≤ 4 from (by decide)) (by decide)
                  show PW 97 d (31, [some (pvR 124), some (pvI n1), some (pvI n2), some (pvI n3), some (pvI n4), some (pvI n5), none], [pvI 1], M) _
                  refine pw_if hT (c := 1 = 0) rfl rfl (fun c50_ => absurd c50_ (by decide)) (fun c50_ => ?_)
                  refine pw_blk hT 4 (S' := (40, [some (pvR 124), some (pvI n1), some (pvI n2), some (pvI n3), some (pvI n4), some (pvI n5), none], [pvI 9, pvI 1, pvI n5, pvR 124], M)) rfl ⟨trivial, trivial, trivial, trivial, trivial⟩ ?_
                  refine pw_callT hT (as := [pvR 124, pvI n5, pvI 1, pvI 9]) (lo1 := [some (pvR 124), some (pvI n5), some (pvI 1), some (pvI 9)]) (d1 := d) (rest := []) rfl rfl rfl rfl rfl (fun _ => rfl) (Nat.zero_le _) rfl rfl rfl (sf_X10_in_124_x_x_x M hok n5 1 9 d) ?_
                  by_cases c56_ : n5 < 1
                  · refine pw_eqI (if_pos c56_) ?_
                    have b57_ : (-2147483648) ≤ Int32.toInt n5 ∧ Int32.toInt n5 ≤ 0 := zr_lt_l 0 c56_ (zbnd n5) (show 1 ≤ Int32.toInt 1 ∧ Int32.toInt 1 ≤ 1 from (by decide)) (by decide)
                    show PW 97 d (43, [some (pvR 124), some (pvI n1), some (pvI n2), some (pvI n3), some (pvI n4), some (pvI n5), none], [pvI 0], M) _
                    refine pw_ifn hT (c := 0 = 0) rfl rfl (fun c58_ => absurd (by decide) c58_) (fun c58_ => ?_)
                    refine pw_blk hT 1 (S' := (48, [some (pvR 124), some (pvI n1), some (pvI n2), some (pvI n3), some (pvI n4), some (pvI n5), none], [pvI (-2)], M)) rfl ⟨trivial, trivial⟩ ?_
                    exact pw_ret hT rfl (r := some (pvI (-2))) (M' := M) ⟨rfl, rfl⟩ ⟨⟨_, rfl, (zr_wide (show (-2) ≤ Int32.toInt (-2) ∧ Int32.toInt (-2) ≤ (-2) from (by decide)) (by decide) (by decide)), (by rw [if_neg c6_, if_neg c10_, if_neg c20_, if_neg c24_, if_neg c34_, if_neg c38_, if_neg c42_, if_neg c46_, if_pos c56_]; first | done | (rw [if_pos c56_]; done))⟩, hok, pvfr_0, (by rw [if_neg c6_, if_neg c10_, if_neg c20_, if_neg c24_, if_neg c34_, if_neg c38_, if_neg c42_, if_neg c46_, if_pos c56_]; first | done | exact rfl | (rw [if_pos c56_]; done) | (rw [if_pos c56_]; exact rfl))⟩
                  · refine pw_eqI (if_neg c56_) ?_
                    have b59_ : 1 ≤ Int32.toInt n5 ∧ Int32.toInt n5 ≤ 2147483647 := zr_nlt_l 1 c56_ (zbnd n5) (show 1 ≤ Int32.toInt 1 ∧ Int32.toInt 1 ≤ 1 from (by decide)) (by decide)
                    by_cases c60_ : 9 < n5
                    · refine pw_eqI (if_pos c60_) ?_
                      have b61_ : 10 ≤ Int32.toInt n5 ∧ Int32.toInt n5 ≤ 2147483647 := zr_lt_r 10 c60_ b59_ (show 9 ≤ Int32.toInt 9 ∧ Int32.toInt 9 ≤ 9 from (by decide)) (by decide)
                      show PW 97 d (43, [some (pvR 124), some (pvI n1), some (pvI n2), some (pvI n3), some (pvI n4), some (pvI n5), none], [pvI 0], M) _
                      refine pw_ifn hT (c := 0 = 0) rfl rfl (fun c62_ => absurd (by decide) c62_) (fun c62_ => ?_)
                      refine pw_blk hT 1 (S' := (48, [some (pvR 124), some (pvI n1), some (pvI n2), some (pvI n3), some (pvI n4), some (pvI n5), none], [pvI (-2)], M)) rfl ⟨trivial, trivial⟩ ?_
                      exact pw_ret hT rfl (r := some (pvI (-2))) (M' := M) ⟨rfl, rfl⟩ ⟨⟨_, rfl, (zr_wide (show (-2) ≤ Int32.toInt (-2) ∧ Int32.toInt (-2) ≤ (-2) from (by decide)) (by decide) (by decide)), (by rw [if_neg c6_, if_neg c10_, if_neg c20_, if_neg c24_, if_neg c34_, if_neg c38_, if_neg c42_, if_neg c46_, if_neg c56_, if_pos c60_]; first | done | (rw [if_pos c60_]; done))⟩, hok, pvfr_0, (by rw [if_neg c6_, if_neg c10_, if_neg c20_, if_neg c24_, if_neg c34_, if_neg c38_, if_neg c42_, if_neg c46_, if_neg c56_, if_pos c60_]; first | done | exact rfl | (rw [if_pos c60_]; done) | (rw [if_pos c60_]; exact rfl))⟩
                    · refine pw_eqI (if_neg c60_) ?_
                      have b63_ : 1 ≤ Int32.toInt n5 ∧ Int32.toInt n5 ≤ 9 := zr_nlt_r 9 c60_ b59_ (show 9 ≤ Int32.toInt 9 ∧ Int32.toInt 9 ≤ 9 from (by decide)) (by decide)
                      show PW 97 d (43, [some (pvR 124), some (pvI n1), some (pvI n2), some (pvI n3), some (pvI n4), some (pvI n5), none], [pvI 1], M) _
                      refine pw_ifn hT (c := 1 = 0) rfl rfl (fun c64_ => ?_) (fun c64_ => absurd c64_ (by decide))
                      have b65_ : 0 ≤ Int32.toInt (M.1 124 0) ∧ Int32.toInt (M.1 124 0) ≤ 7 := pvok_r hok 124 0 rfl
                      refine pw_blk hT 3 (S' := (55, [some (pvR 124), some (pvI n1), some (pvI n2), some (pvI n3), some (pvI n4), some (pvI n5), none], [pvI 7, pvI (M.1 124 0)], M)) rfl ⟨trivial, rfl, trivial, trivial⟩ ?_
                      refine pw_icn hT (c := (M.1 124 0) = 7) rfl rfl (fun c66_ => ?_) (fun c66_ => ?_)
                      · have b67_ : 0 ≤ Int32.toInt (M.1 124 0) ∧ Int32.toInt (M.1 124 0) ≤ 6 := (by have u0 := b65_; have u1 := (not_congr (zi_eq _ _)).mp c66_; have u2 := (show 7 ≤ Int32.toInt 7 ∧ Int32.toInt 7 ≤ 7 from (by decide)); omega)
                        refine pw_blkw hT 6 (pc := 71) (lo := [some (pvR 124), some (pvI n1), some (pvI n2), some (pvI n3), some (pvI n4), some (pvI n5), none]) (st := []) (M := pvu M 125 (Int32.toNatClampNeg (M.1 124 0)) n1) rfl ⟨trivial, rfl, trivial, rfl, trivial, ⟨rfl, (zr_in (n := 7) b67_ (by decide) (by decide))⟩, trivial⟩ (fun M68_ e69_ => ?_)
                        have o70_ : pvOk M68_ := pvok_u2 e69_ hok rfl b13_
                        have f71_ : pvFr fp_eX10_window_124_x_x_x_x_x M M68_ := pvfr_u e69_ pvfr_0 rfl
                        have e72_ : (M68_.1 124 0) = (M.1 124 0) := (pvu_n e69_ 124 0 (Or.inl (by decide)))
                        have b73_ : 0 ≤ Int32.toInt (M68_.1 124 0) ∧ Int32.toInt (M68_.1 124 0) ≤ 6 := (by rw [e72_]; exact b67_)
                        refine pw_blkw hT 6 (pc := 81) (lo := [some (pvR 124), some (pvI n1), some (pvI n2), some (pvI n3), some (pvI n4), some (pvI n5), none]) (st := []) (M := pvu M68_ 126 (Int32.toNatClampNeg (M68_.1 124 0)) n2) rfl ⟨trivial, rfl, trivial, rfl, trivial, ⟨rfl, (zr_in (n := 7) b73_ (by decide) (by decide))⟩, trivial⟩ (fun M74_ e75_ => ?_)
                        have o76_ : pvOk M74_ := pvok_u2 e75_ o70_ rfl b27_
                        have f77_ : pvFr fp_eX10_window_124_x_x_x_x_x M M74_ := pvfr_u e75_ f71_ rfl
                        have e78_ : (M74_.1 124 0) = (M68_.1 124 0) := (pvu_n e75_ 124 0 (Or.inl (by decide)))
                        have b79_ : 0 ≤ Int32.toInt (M74_.1 124 0) ∧ Int32.toInt (M74_.1 124 0) ≤ 6 := (by rw [e78_]; exact b73_)
                        refine pw_blkw hT 6 (pc := 91) (lo := [some (pvR 124), some (pvI n1), some (pvI n2), some (pvI n3), some (pvI n4), some (pvI n5), none]) (st := []) (M := pvu M74_ 127 (Int32.toNatClampNeg (M74_.1 124 0)) n3) rfl ⟨trivial, rfl, trivial, rfl, trivial, ⟨rfl, (zr_in (n := 7) b79_ (by decide) (by decide))⟩, trivial⟩ (fun M80_ e81_ => ?_)
                        have o82_ : pvOk M80_ := pvok_u2 e81_ o76_ rfl b41_
                        have f83_ : pvFr fp_eX10_window_124_x_x_x_x_x M M80_ := pvfr_u e81_ f77_ rfl
                        have e84_ : (M80_.1 124 0) = (M74_.1 124 0) := (pvu_n e81_ 124 0 (Or.inl (by decide)))
                        have b85_ : 0 ≤ Int32.toInt (M80_.1 124 0) ∧ Int32.toInt (M80_.1 124 0) ≤ 6 := (by rw [e84_]; exact b79_)
                        refine pw_blkw hT 6 (pc := 102) (lo := [some (pvR 124), some (pvI n1), some (pvI n2), some (pvI n3), some (pvI n4), some (pvI n5), none]) (st := []) (M := pvu M80_ 128 (Int32.toNatClampNeg (M80_.1 124 0)) n4) rfl ⟨trivial, rfl, trivial, rfl, trivial, ⟨rfl, (zr_in (n := 7) b85_ (by decide) (by decide))⟩, trivial⟩ (fun M86_ e87_ => ?_)
                        have o88_ : pvOk M86_ := pvok_u2 e87_ o82_ rfl b49_
                        have f89_ : pvFr fp_eX10_window_124_x_x_x_x_x M M86_ := pvfr_u e87_ f83_ rfl
                        have e90_ : (M86_.1 124 0) = (M80_.1 124 0) := (pvu_n e87_ 124 0 (Or.inl (by decide)))
                        have b91_ : 0 ≤ Int32.toInt (M86_.1 124 0) ∧ Int32.toInt (M86_.1 124 0) ≤ 6 := (by rw [e90_]; exact b85_)
                        refine pw_blkw hT 6 (pc := 113) (lo := [some (pvR 124), some (pvI n1), some (pvI n2), some (pvI n3), some (pvI n4), some (pvI n5), none]) (st := []) (M := pvu M86_ 129 (Int32.toNatClampNeg (M86_.1 124 0)) n5) rfl ⟨trivial, rfl, trivial, rfl, trivial, ⟨rfl, (zr_in (n := 7) b91_ (by decide) (by decide))⟩, trivial⟩ (fun M92_ e93_ => ?_)
                        have o94_ : pvOk M92_ := pvok_u2 e93_ o88_ rfl (zr_wide b63_ (by decide) (by decide))
                        have f95_ : pvFr fp_eX10_window_124_x_x_x_x_x M M92_ := pvfr_u e93_ f89_ rfl
                        have e96_ : (M92_.1 124 0) = (M86_.1 124 0) := (pvu_n e93_ 124 0 (Or.inl (by decide)))
                        have b97_ : 0 ≤ Int32.toInt (M92_.1 124 0) ∧ Int32.toInt (M92_.1 124 0) ≤ 6 := (by rw [e96_]; exact b91_)
                        refine pw_blkw hT 6 (pc := 123) (lo := [some (pvR 124), some (pvI n1), some (pvI n2), some (pvI n3), some (pvI n4), some (pvI n5), none]) (st := []) (M := pvu M92_ 131 (Int32.toNatClampNeg (M92_.1 124 0)) (vp_nar .boolean 0)) rfl ⟨trivial, rfl, trivial, rfl, trivial, ⟨rfl, (zr_in (n := 7) b97_ (by decide) (by decide))⟩, trivial⟩ (fun M98_ e99_ => ?_)
                        have o100_ : pvOk M98_ := pvok_u2 e99_ o94_ rfl (zboolr 0)
                        have f101_ : pvFr fp_eX10_window_124_x_x_x_x_x M M98_ := pvfr_u e99_ f95_ rfl
                        refine pw_blk hT 2 (S' := (126, [some (pvR 124), some (pvI n1), some (pvI n2), some (pvI n3), some (pvI n4), some (pvI n5), some (pvI 0)], [], M98_)) rfl ⟨trivial, trivial, trivial⟩ ?_
                        have e102_ : (M98_.1 124 0) = (M92_.1 124 0) := (pvu_n e99_ 124 0 (Or.inl (by decide)))
                        have b103_ : 0 ≤ Int32.toInt (M98_.1 124 0) ∧ Int32.toInt (M98_.1 124 0) ≤ 6 := (by rw [e102_]; exact b97_)
                        have hlz196_ : ∀ (nz196_ : Nat) (i6z196_ : Int32) (Mz196_ : pvM), (pvOk Mz196_) → (pvFr fp_eX10_window_124_x_x_x_x_x M Mz196_) → (Mz196_.1 124 0 = M98_.1 124 0) → (0 ≤ Int32.toInt i6z196_ ∧ Int32.toInt i6z196_ ≤ 4) → (Mz196_.1 124 0 = (M.1 124 0)) → (zhide ((5 - Int32.toInt i6z196_).toNat < nz196_)) → PW 97 d (126, [some (pvR 124), some (pvI n1), some (pvI n2), some (pvI n3), some (pvI n4), some (pvI n5), some (pvI i6z196_)], [], Mz196_) (fun r X => (∃ x : Int32, r = some (pvI x) ∧ ((-4) ≤ Int32.toInt x ∧ Int32.toInt x ≤ 6) ∧ x = (if n1 < 0 then (-1) else (if 6 < n1 then (-1) else (if n2 < 0 then (-2) else (if 9 < n2 then (-2) else (if n3 < 0 then (-2) else (if 3 < n3 then (-2) else (if n4 < 0 then (-2) else (if 4 < n4 then (-2) else (if n5 < 1 then (-2) else (if 9 < n5 then (-2) else (if (M.1 124 0) = 7 then (-4) else (((M.1 124 0) + 1) - 1))))))))))))) ∧ pvOk X ∧ pvFr fp_eX10_window_124_x_x_x_x_x M X ∧ X.1 124 0 = (if n1 < 0 then (M.1 124 0) else (if 6 < n1 then (M.1 124 0) else (if n2 < 0 then (M.1 124 0) else (if 9 < n2 then (M.1 124 0) else (if n3 < 0 then (M.1 124 0) else (if 3 < n3 then (M.1 124 0) else (if n4 < 0 then (M.1 124 0) else (if 4 < n4 then (M.1 124 0) else (if n5 < 1 then (M.1 124 0) else (if 9 < n5 then (M.1 124 0) else (if (M.1 124 0) = 7 then (M.1 124 0) else ((M.1 124 0) + 1))))))))))))) := by
                          intro nz196_
                          induction nz196_ with
                          | zero => intro i6z196_ Mz196_ oz196_ fz196_ k124_0z196_ h6z196_ j0z196_ hmz196_; exact absurd (zshow hmz196_) (Nat.not_lt_zero _)
                          | succ nz196_ ihz196_ =>
                            intro i6z196_ Mz196_ oz196_ fz196_ k124_0z196_ h6z196_ j0z196_ hmz196_
                            refine pw_blk hT 2 (S' := (129, [some (pvR 124), some (pvI n1), some (pvI n2), some (pvI n3), some (pvI n4), some (pvI n5), some (pvI i6z196_)], [pvI 4, pvI i6z196_], Mz196_)) rfl ⟨trivial, trivial, trivial⟩ ?_
                            refine pw_ic hT (c := 4 ≤ i6z196_) rfl rfl (fun c197_ => ?_) (fun c197_ => ?_)
                            · have b198_ : 4 ≤ Int32.toInt i6z196_ ∧ Int32.toInt i6z196_ ≤ 4 := zr_le_r 4 c197_ h6z196_ (show 4 ≤ Int32.toInt 4 ∧ Int32.toInt 4 ≤ 4 from (by decide)) (by decide)
                              have e199_ : (Mz196_.1 124 0) = (M98_.1 124 0) := (k124_0z196_)
                              have b200_ : 0 ≤ Int32.toInt (Mz196_.1 124 0) ∧ Int32.toInt (Mz196_.1 124 0) ≤ 6 := (by rw [e199_]; exact b103_)
                              obtain ⟨q202_, b201_⟩ : (Int32.toInt ((Mz196_.1 124 0) + 1) = Int32.toInt (Mz196_.1 124 0) + 1) ∧ (1 ≤ Int32.toInt ((Mz196_.1 124 0) + 1) ∧ Int32.toInt ((Mz196_.1 124 0) + 1) ≤ 7) := zadd_k (Mz196_.1 124 0) 1 1 1 7 b200_ (by decide) (by decide) (by decide) (by decide) (by decide)
                              refine pw_blkw hT 6 (pc := 163) (lo := [some (pvR 124), some (pvI n1), some (pvI n2), some (pvI n3), some (pvI n4), some (pvI n5), some (pvI i6z196_)]) (st := []) (M := pvu Mz196_ 124 0 ((Mz196_.1 124 0) + 1)) rfl ⟨trivial, trivial, rfl, trivial, trivial, rfl, trivial⟩ (fun M203_ e204_ => ?_)
                              have o205_ : pvOk M203_ := pvok_u2 e204_ oz196_ rfl (zr_wide b201_ (by decide) (by decide))
                              have f206_ : pvFr fp_eX10_window_124_x_x_x_x_x M M203_ := pvfr_u e204_ fz196_ rfl
                              have e207_ : (M203_.1 124 0) = ((Mz196_.1 124 0) + 1) := (pvu_s e204_)
                              have b208_ : 1 ≤ Int32.toInt (M203_.1 124 0) ∧ Int32.toInt (M203_.1 124 0) ≤ 7 := (by rw [e207_]; exact b201_)
                              obtain ⟨q210_, b209_⟩ : (Int32.toInt ((M203_.1 124 0) - 1) = Int32.toInt (M203_.1 124 0) - 1) ∧ (0 ≤ Int32.toInt ((M203_.1 124 0) - 1) ∧ Int32.toInt ((M203_.1 124 0) - 1) ≤ 6) := zsub_k (M203_.1 124 0) 1 1 0 6 b208_ (by decide) (by decide) (by decide) (by decide) (by decide)
                              refine pw_blk hT 4 (S' := (169, [some (pvR 124), some (pvI n1), some (pvI n2), some (pvI n3), some (pvI n4), some (pvI n5), some (pvI i6z196_)], [pvI ((M203_.1 124 0) - 1)], M203_)) rfl ⟨trivial, rfl, trivial, trivial, trivial⟩ ?_
                              exact pw_ret hT rfl (r := some (pvI ((M203_.1 124 0) - 1))) (M' := M203_) ⟨rfl, rfl⟩ ⟨⟨_, rfl, (zr_wide b209_ (by decide) (by decide)), (by rw [if_neg c6_, if_neg c10_, if_neg c20_, if_neg c24_, if_neg c34_, if_neg c38_, if_neg c42_, if_neg c46_, if_neg c56_, if_neg c60_, if_neg c66_]; first | done | exact (show ((M203_.1 124 0) - 1) = (((M.1 124 0) + 1) - 1) from by rw [((pvu_s e204_).trans (show ((Mz196_.1 124 0) + 1) = ((M.1 124 0) + 1) from by rw [j0z196_]))]) | (rw [if_neg c66_]; exact (show ((M203_.1 124 0) - 1) = (((M.1 124 0) + 1) - 1) from by rw [((pvu_s e204_).trans (show ((Mz196_.1 124 0) + 1) = ((M.1 124 0) + 1) from by rw [j0z196_]))])))⟩, o205_, f206_, (by rw [if_neg c6_, if_neg c10_, if_neg c20_, if_neg c24_, if_neg c34_, if_neg c38_, if_neg c42_, if_neg c46_, if_neg c56_, if_neg c60_, if_neg c66_]; first | done | exact ((pvu_s e204_).trans (show ((Mz196_.1 124 0) + 1) = ((M.1 124 0) + 1) from by rw [j0z196_])) | (rw [if_neg c66_]; done) | (rw [if_neg c66_]; exact ((pvu_s e204_).trans (show ((Mz196_.1 124 0) + 1) = ((M.1 124 0) + 1) from by rw [j0z196_]))))⟩
                            · have b211_ : 0 ≤ Int32.toInt i6z196_ ∧ Int32.toInt i6z196_ ≤ 3 := zr_nle_r 3 c197_ h6z196_ (show 4 ≤ Int32.toInt 4 ∧ Int32.toInt 4 ≤ 4 from (by decide)) (by decide)
                              have e212_ : (Mz196_.1 124 0) = (M98_.1 124 0) := (k124_0z196_)
                              have b213_ : 0 ≤ Int32.toInt (Mz196_.1 124 0) ∧ Int32.toInt (Mz196_.1 124 0) ≤ 6 := (by rw [e212_]; exact b103_)
                              have q214_ : Int32.toInt (4 * (Mz196_.1 124 0)) = 4 * Int32.toInt (Mz196_.1 124 0) := by have u0 : Int32.toInt 4 = 4 := (by decide); have u1 := b213_; have u2 := zmul 4 (Mz196_.1 124 0) (by rw [u0]; omega) (by rw [u0]; omega); rw [u0] at u2; omega
                              have b215_ : 0 ≤ Int32.toInt (4 * (Mz196_.1 124 0)) ∧ Int32.toInt (4 * (Mz196_.1 124 0)) ≤ 24 := (by have u1 := b213_; omega)
                              obtain ⟨q217_, b216_⟩ : (Int32.toInt ((4 * (Mz196_.1 124 0)) + i6z196_) = Int32.toInt (4 * (Mz196_.1 124 0)) + Int32.toInt i6z196_) ∧ (0 ≤ Int32.toInt ((4 * (Mz196_.1 124 0)) + i6z196_) ∧ Int32.toInt ((4 * (Mz196_.1 124 0)) + i6z196_) ≤ 27) := zadd_r (4 * (Mz196_.1 124 0)) i6z196_ 0 27 b215_ b211_ (by decide) (by decide) (by decide) (by decide)
                              refine pw_blkw hT 10 (pc := 147) (lo := [some (pvR 124), some (pvI n1), some (pvI n2), some (pvI n3), some (pvI n4), some (pvI n5), some (pvI i6z196_)]) (st := []) (M := pvu Mz196_ 130 (Int32.toNatClampNeg ((4 * (Mz196_.1 124 0)) + i6z196_)) 0) rfl ⟨trivial, rfl, trivial, trivial, rfl, trivial, trivial, trivial, trivial, ⟨rfl, (zr_in (n := 28) b216_ (by decide) (by decide))⟩, trivial⟩ (fun M218_ e219_ => ?_)
                              have o220_ : pvOk M218_ := pvok_u2 e219_ oz196_ rfl (zr_wide (show 0 ≤ Int32.toInt 0 ∧ Int32.toInt 0 ≤ 0 from (by decide)) (by decide) (by decide))
                              have f221_ : pvFr fp_eX10_window_124_x_x_x_x_x M M218_ := pvfr_u e219_ fz196_ rfl
                              obtain ⟨q223_, b222_⟩ : (Int32.toInt (i6z196_ + 1) = Int32.toInt i6z196_ + 1) ∧ (1 ≤ Int32.toInt (i6z196_ + 1) ∧ Int32.toInt (i6z196_ + 1) ≤ 4) := zadd_k i6z196_ 1 1 1 4 b211_ (by decide) (by decide) (by decide) (by decide) (by decide)
                              refine pw_blk hT 2 (S' := (126, [some (pvR 124), some (pvI n1), some (pvI n2), some (pvI n3), some (pvI n4), some (pvI n5), some (pvI (i6z196_ + 1))], [], M218_)) rfl ⟨trivial, trivial, trivial⟩ ?_
                              have j224_ : M218_.1 124 0 = (M.1 124 0) := ((pvu_n e219_ 124 0 (Or.inl (by decide))).trans (j0z196_))
                              exact ihz196_ (i6z196_ + 1) M218_ o220_ f221_ ((pvu_n e219_ 124 0 (Or.inl (by decide))).trans (k124_0z196_)) (zr_wide b222_ (by decide) (by decide)) j224_ (zhid (pvms_up (zshow hmz196_) h6z196_ q223_ (by decide) (by decide)))
                        have u225_ : Int32.toInt 0 = 0 := by decide
                        have j226_ : M98_.1 124 0 = (M.1 124 0) := ((((((pvu_n e99_ 124 0 (Or.inl (by decide))).trans (pvu_n e93_ 124 0 (Or.inl (by decide)))).trans (pvu_n e87_ 124 0 (Or.inl (by decide)))).trans (pvu_n e81_ 124 0 (Or.inl (by decide)))).trans (pvu_n e75_ 124 0 (Or.inl (by decide)))).trans (pvu_n e69_ 124 0 (Or.inl (by decide))))
                        exact hlz196_ _ 0 M98_ o100_ f101_ rfl (zr_wide (show 0 ≤ Int32.toInt 0 ∧ Int32.toInt 0 ≤ 0 from (by decide)) (by decide) (by decide)) j226_ (zhid (Nat.lt_succ_self _))
                      · have b227_ : 7 ≤ Int32.toInt (M.1 124 0) ∧ Int32.toInt (M.1 124 0) ≤ 7 := (by have u0 := b65_; have u1 := (zi_eq _ _).mp c66_; have u2 := (show 7 ≤ Int32.toInt 7 ∧ Int32.toInt 7 ≤ 7 from (by decide)); omega)
                        refine pw_blk hT 1 (S' := (60, [some (pvR 124), some (pvI n1), some (pvI n2), some (pvI n3), some (pvI n4), some (pvI n5), none], [pvI (-4)], M)) rfl ⟨trivial, trivial⟩ ?_
                        exact pw_ret hT rfl (r := some (pvI (-4))) (M' := M) ⟨rfl, rfl⟩ ⟨⟨_, rfl, (zr_wide (show (-4) ≤ Int32.toInt (-4) ∧ Int32.toInt (-4) ≤ (-4) from (by decide)) (by decide) (by decide)), (by rw [if_neg c6_, if_neg c10_, if_neg c20_, if_neg c24_, if_neg c34_, if_neg c38_, if_neg c42_, if_neg c46_, if_neg c56_, if_neg c60_, if_pos c66_]; first | done | (rw [if_pos c66_]; done))⟩, hok, pvfr_0, (by rw [if_neg c6_, if_neg c10_, if_neg c20_, if_neg c24_, if_neg c34_, if_neg c38_, if_neg c42_, if_neg c46_, if_neg c56_, if_neg c60_, if_pos c66_]; first | done | exact rfl | (rw [if_pos c66_]; done) | (rw [if_pos c66_]; exact rfl))⟩
def fpL_eX6_append_100_x_x : List (Nat × Nat × Nat) := [(0, 100, 1), (0, 108, 0), (0, 116, 0)]
def fp_eX6_append_100_x_x (q k : Nat) : Bool := pvfp fpL_eX6_append_100_x_x q k
set_option maxHeartbeats 4000000 in
set_option maxRecDepth 10000 in
theorem se_X6_append_100_x_x (M : pvM) (hok : pvOk M) (n1 : Int32) (n2 : Int32) (hn1 : 0 ≤ Int32.toInt n1 ∧ Int32.toInt n1 ≤ 6) (hn2 : 0 ≤ Int32.toInt n2 ∧ Int32.toInt n2 ≤ 9999) (d : Nat) : PW 151 d (0, [some (pvR 100), some (pvI n1), some (pvI n2)], [], M) (fun r X => (∃ x : Int32, r = some (pvI x) ∧ (1 ≤ Int32.toInt x ∧ Int32.toInt x ≤ 7) ∧ x = (if (M.1 100 0) < (Int32.ofNat 7) then ((M.1 100 0) + 1) else (M.1 100 0))) ∧ pvOk X ∧ pvFr fp_eX6_append_100_x_x M X ∧ X.1 100 0 = (if (M.1 100 0) < (Int32.ofNat 7) then ((M.1 100 0) + 1) else (M.1 100 0))) := by
  have hT : pvdom 151 = pvD_151 := rfl
  refine pw_blk hT 1 (S' := (1, [some (pvR 100), some (pvI n1), some (pvI n2)], [pvR 100], M)) rfl ⟨trivial, trivial⟩ ?_
  refine pw_callT hT (as := [pvR 100]) (lo1 := [some (pvR 100)]) (d1 := d) (rest := []) rfl rfl rfl rfl rfl (fun _ => rfl) (Nat.zero_le _) rfl rfl rfl (sf_X6_isFull_100 M hok d) ?_
  have b6_ : 0 ≤ Int32.toInt (M.1 100 0) ∧ Int32.toInt (M.1 100 0) ≤ 7 := pvok_r hok 100 0 rfl
  by_cases c7_ : (M.1 100 0) < (Int32.ofNat 7)
  · refine pw_eqI (if_pos c7_) ?_
    have b8_ : 0 ≤ Int32.toInt (M.1 100 0) ∧ Int32.toInt (M.1 100 0) ≤ 6 := zr_lt_l 6 c7_ b6_ (show 7 ≤ Int32.toInt (Int32.ofNat 7) ∧ Int32.toInt (Int32.ofNat 7) ≤ 7 from (by decide)) (by decide)
    show PW 151 d (4, [some (pvR 100), some (pvI n1), some (pvI n2)], [pvI 0], M) _
    refine pw_if hT (c := 0 = 0) rfl rfl (fun c9_ => ?_) (fun c9_ => absurd (by decide) c9_)
    refine pw_blkw hT 6 (pc := 22) (lo := [some (pvR 100), some (pvI n1), some (pvI n2)]) (st := []) (M := pvu M 108 (Int32.toNatClampNeg (M.1 100 0)) n1) rfl ⟨trivial, rfl, trivial, rfl, trivial, ⟨rfl, (zr_in (n := 7) b8_ (by decide) (by decide))⟩, trivial⟩ (fun M10_ e11_ => ?_)
    have o12_ : pvOk M10_ := pvok_u2 e11_ hok rfl hn1
    have f13_ : pvFr fp_eX6_append_100_x_x M M10_ := pvfr_u e11_ pvfr_0 rfl
    have e14_ : (M10_.1 100 0) = (M.1 100 0) := (pvu_n e11_ 100 0 (Or.inl (by decide)))
    have b15_ : 0 ≤ Int32.toInt (M10_.1 100 0) ∧ Int32.toInt (M10_.1 100 0) ≤ 6 := (by rw [e14_]; exact b8_)
    refine pw_blkw hT 6 (pc := 32) (lo := [some (pvR 100), some (pvI n1), some (pvI n2)]) (st := []) (M := pvu M10_ 116 (Int32.toNatClampNeg (M10_.1 100 0)) n2) rfl ⟨trivial, rfl, trivial, rfl, trivial, ⟨rfl, (zr_in (n := 7) b15_ (by decide) (by decide))⟩, trivial⟩ (fun M16_ e17_ => ?_)
    have o18_ : pvOk M16_ := pvok_u2 e17_ o12_ rfl hn2
    have f19_ : pvFr fp_eX6_append_100_x_x M M16_ := pvfr_u e17_ f13_ rfl
    have e20_ : (M16_.1 100 0) = (M10_.1 100 0) := (pvu_n e17_ 100 0 (Or.inl (by decide)))
    have b21_ : 0 ≤ Int32.toInt (M16_.1 100 0) ∧ Int32.toInt (M16_.1 100 0) ≤ 6 := (by rw [e20_]; exact b15_)
    obtain ⟨q23_, b22_⟩ : (Int32.toInt ((M16_.1 100 0) + 1) = Int32.toInt (M16_.1 100 0) + 1) ∧ (1 ≤ Int32.toInt ((M16_.1 100 0) + 1) ∧ Int32.toInt ((M16_.1 100 0) + 1) ≤ 7) := zadd_k (M16_.1 100 0) 1 1 1 7 b21_ (by decide) (by decide) (by decide) (by decide) (by decide)
    refine pw_blkw hT 6 (pc := 42) (lo := [some (pvR 100), some (pvI n1), some (pvI n2)]) (st := []) (M := pvu M16_ 100 0 ((M16_.1 100 0) + 1)) rfl ⟨trivial, trivial, rfl, trivial, trivial, rfl, trivial⟩ (fun M24_ e25_ => ?_)
    have o26_ : pvOk M24_ := pvok_u2 e25_ o18_ rfl (zr_wide b22_ (by decide) (by decide))
    have f27_ : pvFr fp_eX6_append_100_x_x M M24_ := pvfr_u e25_ f19_ rfl
    have e28_ : (M24_.1 100 0) = ((M16_.1 100 0) + 1) := (pvu_s e25_)
    have b29_ : 1 ≤ Int32.toInt (M24_.1 100 0) ∧ Int32.toInt (M24_.1 100 0) ≤ 7 := (by rw [e28_]; exact b22_)
    refine pw_blk hT 2 (S' := (46, [some (pvR 100), some (pvI n1), some (pvI n2)], [pvI (M24_.1 100 0)], M24_)) rfl ⟨trivial, rfl, trivial⟩ ?_
    exact pw_ret hT rfl (r := some (pvI (M24_.1 100 0))) (M' := M24_) ⟨rfl, rfl⟩ ⟨⟨_, rfl, b29_, (by rw [if_pos c7_]; first | done | exact (show (M24_.1 100 0) = ((M.1 100 0) + 1) from by rw [((pvu_s e25_).trans (show ((M16_.1 100 0) + 1) = ((M.1 100 0) + 1) from by rw [((pvu_n e17_ 100 0 (Or.inl (by decide))).trans (pvu_n e11_ 100 0 (Or.inl (by decide))))]))]) | (rw [if_pos c7_]; exact (show (M24_.1 100 0) = ((M.1 100 0) + 1) from by rw [((pvu_s e25_).trans (show ((M16_.1 100 0) + 1) = ((M.1 100 0) + 1) from by rw [((pvu_n e17_ 100 0 (Or.inl (by decide))).trans (pvu_n e11_ 100 0 (Or.inl (by decide))))]))])))⟩, o26_, f27_, (by rw [if_pos c7_]; first | done | exact ((pvu_s e25_).trans (show ((M16_.1 100 0) + 1) = ((M.1 100 0) + 1) from by rw [((pvu_n e17_ 100 0 (Or.inl (by decide))).trans (pvu_n e11_ 100 0 (Or.inl (by decide))))])) | (rw [if_pos c7_]; done) | (rw [if_pos c7_]; exact ((pvu_s e25_).trans (show ((M16_.1 100 0) + 1) = ((M.1 100 0) + 1) from by rw [((pvu_n e17_ 100 0 (Or.inl (by decide))).trans (pvu_n e11_ 100 0 (Or.inl (by decide))))]))))⟩
  · refine pw_eqI (if_neg c7_) ?_
    have b30_ : 7 ≤ Int32.toInt (M.1 100 0) ∧ Int32.toInt (M.1 100 0) ≤ 7 := zr_nlt_l 7 c7_ b6_ (show 7 ≤ Int32.toInt (Int32.ofNat 7) ∧ Int32.toInt (Int32.ofNat 7) ≤ 7 from (by decide)) (by decide)
    show PW 151 d (4, [some (pvR 100), some (pvI n1), some (pvI n2)], [pvI 1], M) _
    refine pw_if hT (c := 1 = 0) rfl rfl (fun c31_ => absurd c31_ (by decide)) (fun c31_ => ?_)
    refine pw_blk hT 2 (S' := (11, [some (pvR 100), some (pvI n1), some (pvI n2)], [pvI (M.1 100 0)], M)) rfl ⟨trivial, rfl, trivial⟩ ?_
    exact pw_ret hT rfl (r := some (pvI (M.1 100 0))) (M' := M) ⟨rfl, rfl⟩ ⟨⟨_, rfl, (zr_wide b30_ (by decide) (by decide)), (by rw [if_neg c7_]; first | done | (rw [if_neg c7_]; done))⟩, hok, pvfr_0, (by rw [if_neg c7_]; first | done | exact rfl | (rw [if_neg c7_]; done) | (rw [if_neg c7_]; exact rfl))⟩
