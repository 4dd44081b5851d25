def fpL_X8_become_x_x_x : List (Nat × Nat × Nat) := [(1, 7, 1), (1, 7, 2)]
def fp_X8_become_x_x_x (q k : Nat) : Bool := pvfp fpL_X8_become_x_x_x q k
set_option maxHeartbeats 4000000 in
set_option maxRecDepth 10000 in
theorem sf_X8_become_x_x_x (M : pvM) (hok : pvOk M) (q0 : Nat) (n1 : Int32) (n2 : Int32) (hq0 : pvkl q0 = 7) (hn1 : (-1) ≤ Int32.toInt n1 ∧ Int32.toInt n1 ≤ 4) (d : Nat) : PW 162 d (0, [some (pvR q0), some (pvI n1), some (pvI n2), none], [], M) (fun r X => r = none ∧ pvOk X ∧ pvFr fp_X8_become_x_x_x M X) := by
  have hT : pvdom 162 = pvD_162 := rfl
  refine pw_blkw hT 3 (pc := 5) (lo := [some (pvR q0), some (pvI n1), some (pvI n2), none]) (st := []) (M := pvu M q0 0 n1) rfl ⟨trivial, trivial, hq0, trivial⟩ (fun M1_ e2_ => ?_)
  have o3_ : pvOk M1_ := pvok_u2 e2_ hok ((pvrg_o 0 hq0 (by decide) (by decide)).trans rfl) hn1
  have f4_ : pvFr fp_X8_become_x_x_x M M1_ := pvfr_u e2_ pvfr_0 (pvfp_r (l := fpL_X8_become_x_x_x) (pvowr_7 hq0) (kk := 1) (by decide) (Or.inr rfl))
  have q5_ : Int32.toInt (if 60 < n2 then 60 else n2) = min (Int32.toInt n2) (Int32.toInt 60) := pvmin n2 60
  have b6_ : (-2147483648) ≤ Int32.toInt (if 60 < n2 then 60 else n2) ∧ Int32.toInt (if 60 < n2 then 60 else n2) ≤ 60 := (by have u0 := (zbnd n2); have u1 := (show 60 ≤ Int32.toInt 60 ∧ Int32.toInt 60 ≤ 60 from (by decide)); omega)
  have q7_ : Int32.toInt (if 0 < (if 60 < n2 then 60 else n2) then (if 60 < n2 then 60 else n2) else 0) = max (Int32.toInt 0) (Int32.toInt (if 60 < n2 then 60 else n2)) := pvmax 0 (if 60 < n2 then 60 else n2)
  have b8_ : 0 ≤ Int32.toInt (if 0 < (if 60 < n2 then 60 else n2) then (if 60 < n2 then 60 else n2) else 0) ∧ Int32.toInt (if 0 < (if 60 < n2 then 60 else n2) then (if 60 < n2 then 60 else n2) else 0) ≤ 60 := (by have u0 := (show 0 ≤ Int32.toInt 0 ∧ Int32.toInt 0 ≤ 0 from (by decide)); have u1 := b6_; omega)
  refine pw_blkw hT 7 (pc := 19) (lo := [some (pvR q0), some (pvI n1), some (pvI n2), none]) (st := []) (M := pvu M1_ q0 1 (if 0 < (if 60 < n2 then 60 else n2) then (if 60 < n2 then 60 else n2) else 0)) rfl ⟨trivial, trivial, trivial, trivial, (Nat.le_of_ble_eq_true rfl), (Nat.le_of_ble_eq_true rfl), hq0, trivial⟩ (fun M9_ e10_ => ?_)
  have o11_ : pvOk M9_ := pvok_u2 e10_ o3_ ((pvrg_o 1 hq0 (by decide) (by decide)).trans rfl) b8_
  have f12_ : pvFr fp_X8_become_x_x_x M M9_ := pvfr_u e10_ f4_ (pvfp_r (l := fpL_X8_become_x_x_x) (pvowr_7 hq0) (kk := 2) (by decide) (Or.inr rfl))
  refine pw_blk hT 2 (S' := (21, [some (pvR q0), some (pvI n1), some (pvI n2), some (pvI 0)], [], M9_)) rfl ⟨trivial, trivial, trivial⟩ ?_
  have hlz65_ : ∀ (nz65_ : Nat) (i3z65_ : Int32) (Mz65_ : pvM), (pvOk Mz65_) → (pvFr fp_X8_become_x_x_x M Mz65_) → (0 ≤ Int32.toInt i3z65_ ∧ Int32.toInt i3z65_ ≤ 60) → (zhide ((61 - Int32.toInt i3z65_).toNat < nz65_)) → PW 162 d (21, [some (pvR q0), some (pvI n1), some (pvI n2), some (pvI i3z65_)], [], Mz65_) (fun r X => r = none ∧ pvOk X ∧ pvFr fp_X8_become_x_x_x M X) := by
    intro nz65_
    induction nz65_ with
    | zero => intro i3z65_ Mz65_ oz65_ fz65_ h3z65_ hmz65_; exact absurd (zshow hmz65_) (Nat.not_lt_zero _)
    | succ nz65_ ihz65_ =>
      intro i3z65_ Mz65_ oz65_ fz65_ h3z65_ hmz65_
      have b66_ : 0 ≤ Int32.toInt (Mz65_.1 q0 1) ∧ Int32.toInt (Mz65_.1 q0 1) ≤ 60 := pvok_r oz65_ q0 1 ((pvrg_o 1 hq0 (by decide) (by decide)).trans rfl)
      refine pw_blk hT 3 (S' := (26, [some (pvR q0), some (pvI n1), some (pvI n2), some (pvI i3z65_)], [pvI (Mz65_.1 q0 1), pvI i3z65_], Mz65_)) rfl ⟨trivial, trivial, hq0, trivial⟩ ?_
      refine pw_ic hT (c := (Mz65_.1 q0 1) ≤ i3z65_) rfl rfl (fun c67_ => ?_) (fun c67_ => ?_)
      · have d68_ : Int32.toInt (Mz65_.1 q0 1) ≤ Int32.toInt i3z65_ := (zi_le _ _).mp c67_
        exact pw_ret hT rfl (r := none) (M' := Mz65_) ⟨rfl, rfl⟩ ⟨rfl, oz65_, fz65_⟩
      · have b69_ : 1 ≤ Int32.toInt (Mz65_.1 q0 1) ∧ Int32.toInt (Mz65_.1 q0 1) ≤ 60 := zr_nle_l 1 c67_ b66_ h3z65_ (by decide)
        have b70_ : 0 ≤ Int32.toInt i3z65_ ∧ Int32.toInt i3z65_ ≤ 59 := zr_nle_r 59 c67_ h3z65_ b69_ (by decide)
        have d71_ : Int32.toInt (Mz65_.1 q0 1) > Int32.toInt i3z65_ := Int.not_le.mp ((not_congr (zi_le _ _)).mp c67_)
        refine pw_blkw hT 5 (pc := 36) (lo := [some (pvR q0), some (pvI n1), some (pvI n2), some (pvI i3z65_)]) (st := []) (M := pvw Mz65_ (q0 + 6) (Int32.toNatClampNeg i3z65_) 0) rfl ⟨trivial, hq0, trivial, trivial, ⟨(pvow_7_6 hq0).1, (by rw [(pvow_7_6 hq0).2.1]; exact (zr_in (n := 60) b70_ (by decide) (by decide)))⟩, trivial⟩ (fun M72_ e73_ => ?_)
        have o74_ : pvOk M72_ := pvok_w e73_ oz65_
        have f75_ : pvFr fp_X8_become_x_x_x M M72_ := pvfr_w e73_ fz65_
        obtain ⟨q77_, b76_⟩ : (Int32.toInt (i3z65_ + 1) = Int32.toInt i3z65_ + 1) ∧ (1 ≤ Int32.toInt (i3z65_ + 1) ∧ Int32.toInt (i3z65_ + 1) ≤ 60) := zadd_k i3z65_ 1 1 1 60 b70_ (by decide) (by decide) (by decide) (by decide) (by decide)
        refine pw_blk hT 2 (S' := (21, [some (pvR q0), some (pvI n1), some (pvI n2), some (pvI (i3z65_ + 1))], [], M72_)) rfl ⟨trivial, trivial, trivial⟩ ?_
        exact ihz65_ (i3z65_ + 1) M72_ o74_ f75_ (zr_wide b76_ (by decide) (by decide)) (zhid (pvms_up (zshow hmz65_) h3z65_ q77_ (by decide) (by decide)))
  exact hlz65_ _ 0 M9_ o11_ f12_ (zr_wide (show 0 ≤ Int32.toInt 0 ∧ Int32.toInt 0 ≤ 0 from (by decide)) (by decide) (by decide)) (zhid (Nat.lt_succ_self _))
