def fp_X8_become_x_x_x (q k : Nat) : Bool := pvfp fpL_X8_become_x_x_x q k
set_option maxHeartbeats 4000000 in
set_option maxRecDepth 10000 in
theorem sf_X8_become_x_x_x (M : pvM) (hok : pvOk M) (q0 : Nat) (n1 : Int32) (n2 : Int32) (hq0 : pvkl q0 = 7) (hn1 : (-1) ≤ Int32.toInt n1 ∧ Int32.toInt n1 ≤ 4) (d : Nat) : PW 162 d (0, [some (pvR q0), some (pvI n1), some (pvI n2), none], [], M) (fun r X => r = none ∧ pvOk X ∧ pvFr fp_X8_become_x_x_x M X) := by
  have hT : pvdom 162 = pvD_162 := rfl
  refine pw_blkw hT 3 (pc := 5) (lo := [some (pvR q0), some (pvI n1), some (pvI n2), none]) (st := []) (M := pvu M q0 0 n1) rfl ⟨trivial, trivial, hq0, trivial⟩ (fun M1_ e2_ => ?_)
  have o3_ : pvOk M1_ := pvok_u2 e2_ hok ((pvrg_o 0 hq0 (by decide) (by decide)).trans rfl) hn1
  have f4_ : pvFr fp_X8_become_x_x_x M M1_ := pvfr_u e2_ pvfr_0 (pvfp_r (l := fpL_X8_become_x_x_x) (pvowr_7 hq0) (kk := 1) (by decide) (Or.inr rfl))
  have q5_ : Int32.toInt (if 60 < n2 then 60 else n2) = min (Int32.toInt n2) (Int32.toInt 60) := pvmin n2 60
  have b6_ : (-2147483648) ≤ Int32.toInt (if 60 < n2 then 60 else n2) ∧ Int32.toInt (if 60 < n2 then 60 else n2) ≤ 60 := (by have u0 := (zbnd n2); have u1 := (show 60 ≤ Int32.toInt 60 ∧ Int32.toInt 60 ≤ 60 from (by decide)); omega)
  have q7_ : Int32.toInt (if 0 < (if 60 < n2 then 60 else n2) then (if 60 < n2 then 60 else n2) else 0) = max (Int32.toInt 0) (Int32.toInt (if 60 < n2 then 60 else n2)) := pvmax 0 (if 60 < n2 then 60 else n2)
  have b8_ : 0 ≤ Int32.toInt (if 0 < (if 60 < n2 then 60 else n2) then (if 60 < n2 then 60 else n2) else 0) ∧ Int32.toInt (if 0 < (if 60 < n2 then 60 else n2) then (if 60 < n2 then 60 else n2) else 0) ≤ 60 := (by have u0 := (show 0 ≤ Int32.toInt 0 ∧ Int32.toInt 0 ≤ 0 from (by decide)); have u1 := b6_; omega)
  refine pw_blkw hT 7 (pc := 19) (lo := [some (pvR q0), some (pvI n1), some (pvI n2), none]) (st := []) (M := pvu M1_ q0 1 (if 0 < (if 60 < n2 then 60 else n2) then (if 60 < n2 then 60 else n2) else 0)) rfl ⟨trivial, trivial, trivial, trivial, (Nat.le_of_ble_eq_true rfl), (Nat.le_of_ble_eq_true rfl), hq0, trivial⟩ (fun M9_ e10_ => ?_)
  have o11_ : pvOk M9_ := pvok_u2 e10_ o3_ ((pvrg_o 1 hq0 (by decide) (by decide)).trans rfl) b8_
  have f12_ : pvFr fp_X8_become_x_x_x M M9_ := pvfr_u e10_ f4_ (pvfp_r (l := fpL_X8_become_x_x_x) (pvowr_7 hq0) (kk := 2) (by decide) (Or.inr rfl))
  refine pw_blk hT 2 (S' := (21, [some (pvR q0), some (pvI n1), some (pvI n2), some (pvI 0)], [], M9_)) rfl ⟨trivial, trivial, trivial⟩ ?_
  have hlz65_ : ∀ (nz65_ : Nat) (i3z65_ : Int32) (Mz65_ : pvM), (pvOk Mz65_) → (pvFr fp_X8_become_x_x_x M Mz65_) → (0 ≤ Int32.toInt i3z65_ ∧ Int32.toInt i3z65_ ≤ 60) → (zhide ((61 - Int32.toInt i3z65_).toNat < nz65_)) → PW 162 d (21, [some (pvR q0), some (pvI n1), some (pvI n2), some (pvI i3z65_)], [], Mz65_) (fun r X => r = none ∧ pvOk X ∧ pvFr fp_X8_become_x_x_x M X) := by
    intro nz65_
    induction nz65_ with
    | zero => intro i3z65_ Mz65_ oz65_ fz65_ h3z65_ hmz65_; exact absurd (zshow hmz65_) (Nat.not_lt_zero _)
    | succ nz65_ ihz65_ =>
      intro i3z65_ Mz65_ oz65_ fz65_ h3z65_ hmz65_
      have b66_ : 0 ≤ Int32.toInt (Mz65_.1 q0 1) ∧ Int32.toInt (Mz65_.1 q0 1) ≤ 60 := pvok_r oz65_ q0 1 ((pvrg_o 1 hq0 (by decide) (by decide)).trans rfl)
      refine pw_blk hT 3 (S' := (26, [some (pvR q0), some (pvI n1), some (pvI n2), some (pvI i3z65_)], [pvI (Mz65_.1 q0 1), pvI i3z65_], Mz65_)) rfl ⟨trivial, trivial, hq0, trivial⟩ ?_
      refine pw_ic hT (c := (Mz65_.1 q0 1) ≤ i3z65_) rfl rfl (fun c67_ => ?_) (fun c67_ => ?_)
      · have d68_ : Int32.toInt (Mz65_.1 q0 1) ≤ Int32.toInt i3z65_ := (zi_le _ _).mp c67_
        exact pw_ret hT rfl (r := none) (M' := Mz65_) ⟨rfl, rfl⟩ ⟨rfl, oz65_, fz65_⟩
      · have b69_ : 1 ≤ Int32.toInt (Mz65_.1 q0 1) ∧ Int32.toInt (Mz65_.1 q0 1) ≤ 60 := zr_nle_l 1 c67_ b66_ h3z65_ (by decide)
        have b70_ : 0 ≤ Int32.toInt i3z65_ ∧ Int32.toInt i3z65_ ≤ 59 := zr_nle_r 59 c67_ h3z65_ b69_ (by decide)
        have d71_ : Int32.toInt (Mz65_.1 q0 1) > Int32.toInt i3z65_ := Int.not_le.mp ((not_congr (zi_le _ _)).mp c67_)
        refine pw_blkw hT 5 (pc := 36) (lo := [some (pvR q0), some (pvI n1), some (pvI n2), some (pvI i3z65_)]) (st := []) (M := pvw Mz65_ (q0 + 6) (Int32.toNatClampNeg i3z65_) 0) rfl ⟨trivial, hq0, trivial, trivial, ⟨(pvow_7_6 hq0).1, (by rw [(pvow_7_6 hq0).2.1]; exact (zr_in (n := 60) b70_ (by decide) (by decide)))⟩, trivial⟩ (fun M72_ e73_ => ?_)
        have o74_ : pvOk M72_ := pvok_w e73_ oz65_
        have f75_ : pvFr fp_X8_become_x_x_x M M72_ := pvfr_w e73_ fz65_
        obtain ⟨q77_, b76_⟩ : (Int32.toInt (i3z65_ + 1) = Int32.toInt i3z65_ + 1) ∧ (1 ≤ Int32.toInt (i3z65_ + 1) ∧ Int32.toInt (i3z65_ + 1) ≤ 60) := zadd_k i3z65_ 1 1 1 60 b70_ (by decide) (by decide) (by decide) (by decide) (by decide)
        refine pw_blk hT 2 (S' := (21, [some (pvR q0), some (pvI n1), some (pvI n2), some (pvI (i3z65_ + 1))], [], M72_)) rfl ⟨trivial, trivial, trivial⟩ ?_
        exact ihz65_ (i3z65_ + 1) M72_ o74_ f75_ (zr_wide b76_ (by decide) (by decide)) (zhid (pvms_up (zshow hmz65_) h3z65_ q77_ (by decide) (by decide)))
  exact hlz65_ _ 0 M9_ o11_ f12_ (zr_wide (show 0 ≤ Int32.toInt 0 ∧ Int32.toInt 0 ≤ 0 from (by decide)) (by decide) (by decide)) (zhid (Nat.lt_succ_self _))
set_option maxHeartbeats 4000000 in
set_option maxRecDepth 10000 in
theorem sf_X9_told_0_x (M : pvM) (hok : pvOk M) (n1 : Int32) (d : Nat) : PW 205 d (0, [some (pvR 0), some (pvI n1)], [], M) (fun r X => (∃ x : Int32, r = some (pvI x) ∧ True) ∧ X = M) := by
  have hT : pvdom 205 = pvD_205 := rfl
  refine pw_blk hT 1 (S' := (1, [some (pvR 0), some (pvI n1)], [pvI n1], M)) rfl ⟨trivial, trivial⟩ ?_
  refine pw_sw hT rfl rfl ?_
  refine And.intro (fun c1_ => ?_) (fun c1_ => ?_)
  · show PW 205 d (52, [some (pvR 0), some (pvI n1)], [], M) _
    have b2_ : 0 ≤ Int32.toInt n1 ∧ Int32.toInt n1 ≤ 0 := (by have u0 := (zbnd n1); have u1 := (zi_eq _ _).mp c1_; have u2 := (show 0 ≤ Int32.toInt 0 ∧ Int32.toInt 0 ≤ 0 from (by decide)); omega)
    have b3_ : 0 ≤ Int32.toInt (M.1 8 4) ∧ Int32.toInt (M.1 8 4) ≤ 9999 := pvok_r hok 8 4 rfl
    refine pw_blk hT 3 (S' := (59, [some (pvR 0), some (pvI n1)], [pvI (M.1 8 4)], M)) rfl ⟨trivial, rfl, rfl, trivial⟩ ?_
    exact pw_ret hT rfl (r := some (pvI (M.1 8 4))) (M' := M) ⟨rfl, rfl⟩ ⟨⟨_, rfl, trivial⟩, rfl⟩
  · refine And.intro (fun c4_ => ?_) (fun c4_ => ?_)
    · show PW 205 d (60, [some (pvR 0), some (pvI n1)], [], M) _
      have b5_ : 1 ≤ Int32.toInt n1 ∧ Int32.toInt n1 ≤ 1 := (by have u0 := (zbnd n1); have u1 := (zi_eq _ _).mp c4_; have u2 := (show 1 ≤ Int32.toInt 1 ∧ Int32.toInt 1 ≤ 1 from (by decide)); omega)
      refine pw_blk hT 3 (S' := (67, [some (pvR 0), some (pvI n1)], [pvI (M.1 8 5)], M)) rfl ⟨trivial, rfl, rfl, trivial⟩ ?_
      exact pw_ret hT rfl (r := some (pvI (M.1 8 5))) (M' := M) ⟨rfl, rfl⟩ ⟨⟨_, rfl, trivial⟩, rfl⟩
    · refine And.intro (fun c6_ => ?_) (fun c6_ => ?_)
      · show PW 205 d (68, [some (pvR 0), some (pvI n1)], [], M) _
        have b7_ : 2 ≤ Int32.toInt n1 ∧ Int32.toInt n1 ≤ 2 := (by have u0 := (zbnd n1); have u1 := (zi_eq _ _).mp c6_; have u2 := (show 2 ≤ Int32.toInt 2 ∧ Int32.toInt 2 ≤ 2 from (by decide)); omega)
        have b8_ : 0 ≤ Int32.toInt (M.1 8 2) ∧ Int32.toInt (M.1 8 2) ≤ 99 := pvok_r hok 8 2 rfl
        refine pw_blk hT 3 (S' := (75, [some (pvR 0), some (pvI n1)], [pvI (M.1 8 2)], M)) rfl ⟨trivial, rfl, rfl, trivial⟩ ?_
        exact pw_ret hT rfl (r := some (pvI (M.1 8 2))) (M' := M) ⟨rfl, rfl⟩ ⟨⟨_, rfl, trivial⟩, rfl⟩
      · refine And.intro (fun c9_ => ?_) (fun c9_ => ?_)
        · show PW 205 d (76, [some (pvR 0), some (pvI n1)], [], M) _
          have b10_ : 3 ≤ Int32.toInt n1 ∧ Int32.toInt n1 ≤ 3 := (by have u0 := (zbnd n1); have u1 := (zi_eq _ _).mp c9_; have u2 := (show 3 ≤ Int32.toInt 3 ∧ Int32.toInt 3 ≤ 3 from (by decide)); omega)
          have b11_ : 0 ≤ Int32.toInt (M.1 8 3) ∧ Int32.toInt (M.1 8 3) ≤ 3 := pvok_r hok 8 3 rfl
          refine pw_blk hT 3 (S' := (83, [some (pvR 0), some (pvI n1)], [pvI (M.1 8 3)], M)) rfl ⟨trivial, rfl, rfl, trivial⟩ ?_
          exact pw_ret hT rfl (r := some (pvI (M.1 8 3))) (M' := M) ⟨rfl, rfl⟩ ⟨⟨_, rfl, trivial⟩, rfl⟩
        · refine And.intro (fun c12_ => ?_) (fun c12_ => ?_)
          · show PW 205 d (84, [some (pvR 0), some (pvI n1)], [], M) _
            have b13_ : 4 ≤ Int32.toInt n1 ∧ Int32.toInt n1 ≤ 4 := (by have u0 := (zbnd n1); have u1 := (zi_eq _ _).mp c12_; have u2 := (show 4 ≤ Int32.toInt 4 ∧ Int32.toInt 4 ≤ 4 from (by decide)); omega)
            have b14_ : 15 ≤ Int32.toInt (M.1 8 8) ∧ Int32.toInt (M.1 8 8) ≤ 23 := pvok_r hok 8 8 rfl
            refine pw_blkr hT 3 (pc := 91) (lo := [some (pvR 0), some (pvI n1)]) (st := []) (M := M) (z := (pvhp (M.1 8 8))) rfl ⟨trivial, rfl, rfl, trivial⟩ (fun q15_ e17_ => ?_)
            have k16_ : pvkl q15_ = 2 := pvhp_k b14_ e17_
            have b18_ : 0 ≤ Int32.toInt (M.1 q15_ 0) ∧ Int32.toInt (M.1 q15_ 0) ≤ 99 := pvok_r hok q15_ 0 ((pvrg_o 0 k16_ (by decide) (by decide)).trans rfl)
            refine pw_blk hT 1 (S' := (94, [some (pvR 0), some (pvI n1)], [pvI (M.1 q15_ 0)], M)) rfl ⟨k16_, trivial⟩ ?_
            exact pw_ret hT rfl (r := some (pvI (M.1 q15_ 0))) (M' := M) ⟨rfl, rfl⟩ ⟨⟨_, rfl, trivial⟩, rfl⟩
          · refine And.intro (fun c19_ => ?_) (fun c19_ => ?_)
            · show PW 205 d (95, [some (pvR 0), some (pvI n1)], [], M) _
              have b20_ : 5 ≤ Int32.toInt n1 ∧ Int32.toInt n1 ≤ 5 := (by have u0 := (zbnd n1); have u1 := (zi_eq _ _).mp c19_; have u2 := (show 5 ≤ Int32.toInt 5 ∧ Int32.toInt 5 ≤ 5 from (by decide)); omega)
              have b21_ : 15 ≤ Int32.toInt (M.1 8 8) ∧ Int32.toInt (M.1 8 8) ≤ 23 := pvok_r hok 8 8 rfl
              refine pw_blkr hT 3 (pc := 102) (lo := [some (pvR 0), some (pvI n1)]) (st := []) (M := M) (z := (pvhp (M.1 8 8))) rfl ⟨trivial, rfl, rfl, trivial⟩ (fun q22_ e24_ => ?_)
              have k23_ : pvkl q22_ = 2 := pvhp_k b21_ e24_
              have b25_ : 0 ≤ Int32.toInt (M.1 q22_ 1) ∧ Int32.toInt (M.1 q22_ 1) ≤ 99 := pvok_r hok q22_ 1 ((pvrg_o 1 k23_ (by decide) (by decide)).trans rfl)
              refine pw_blk hT 1 (S' := (105, [some (pvR 0), some (pvI n1)], [pvI (M.1 q22_ 1)], M)) rfl ⟨k23_, trivial⟩ ?_
              exact pw_ret hT rfl (r := some (pvI (M.1 q22_ 1))) (M' := M) ⟨rfl, rfl⟩ ⟨⟨_, rfl, trivial⟩, rfl⟩
            · refine And.intro (fun c26_ => ?_) (fun c26_ => ?_)
              · show PW 205 d (106, [some (pvR 0), some (pvI n1)], [], M) _
                have b27_ : 6 ≤ Int32.toInt n1 ∧ Int32.toInt n1 ≤ 6 := (by have u0 := (zbnd n1); have u1 := (zi_eq _ _).mp c26_; have u2 := (show 6 ≤ Int32.toInt 6 ∧ Int32.toInt 6 ≤ 6 from (by decide)); omega)
                have b28_ : 0 ≤ Int32.toInt (M.1 8 6) ∧ Int32.toInt (M.1 8 6) ≤ 3 := pvok_r hok 8 6 rfl
                refine pw_blk hT 3 (S' := (113, [some (pvR 0), some (pvI n1)], [pvI (M.1 8 6)], M)) rfl ⟨trivial, rfl, rfl, trivial⟩ ?_
                exact pw_ret hT rfl (r := some (pvI (M.1 8 6))) (M' := M) ⟨rfl, rfl⟩ ⟨⟨_, rfl, trivial⟩, rfl⟩
              · refine And.intro (fun c29_ => ?_) (fun c29_ => ?_)
                · show PW 205 d (114, [some (pvR 0), some (pvI n1)], [], M) _
                  have b30_ : 7 ≤ Int32.toInt n1 ∧ Int32.toInt n1 ≤ 7 := (by have u0 := (zbnd n1); have u1 := (zi_eq _ _).mp c29_; have u2 := (show 7 ≤ Int32.toInt 7 ∧ Int32.toInt 7 ≤ 7 from (by decide)); omega)
                  have b31_ : 0 ≤ Int32.toInt (M.1 8 7) ∧ Int32.toInt (M.1 8 7) ≤ 4 := pvok_r hok 8 7 rfl
                  refine pw_blk hT 3 (S' := (121, [some (pvR 0), some (pvI n1)], [pvI (M.1 8 7)], M)) rfl ⟨trivial, rfl, rfl, trivial⟩ ?_
                  exact pw_ret hT rfl (r := some (pvI (M.1 8 7))) (M' := M) ⟨rfl, rfl⟩ ⟨⟨_, rfl, trivial⟩, rfl⟩
                · refine And.intro (fun c32_ => ?_) (fun c32_ => ?_)
                  · show PW 205 d (122, [some (pvR 0), some (pvI n1)], [], M) _
                    have b33_ : 8 ≤ Int32.toInt n1 ∧ Int32.toInt n1 ≤ 8 := (by have u0 := (zbnd n1); have u1 := (zi_eq _ _).mp c32_; have u2 := (show 8 ≤ Int32.toInt 8 ∧ Int32.toInt 8 ≤ 8 from (by decide)); omega)
                    refine pw_blk hT 2 (S' := (126, [some (pvR 0), some (pvI n1)], [pvR 8], M)) rfl ⟨trivial, rfl, trivial⟩ ?_
                    refine pw_callGp hT (as := [pvR 8]) (lo1 := [some (pvR 8), none, none]) (d1 := d) (rest := []) rfl rfl rfl rfl rfl (fun _ => rfl) (Nat.zero_le _) rfl rfl rfl (sf_X7_openBits_8 M hok d) (fun x34_ b36_ => ?_)
                    exact pw_ret hT rfl (r := some (pvI x34_)) (M' := M) ⟨rfl, rfl⟩ ⟨⟨_, rfl, trivial⟩, rfl⟩
                  · show PW 205 d (130, [some (pvR 0), some (pvI n1)], [], M) _
                    refine pw_blk hT 1 (S' := (131, [some (pvR 0), some (pvI n1)], [pvI (-1)], M)) rfl ⟨trivial, trivial⟩ ?_
                    exact pw_ret hT rfl (r := some (pvI (-1))) (M' := M) ⟨rfl, rfl⟩ ⟨⟨_, rfl, trivial⟩, rfl⟩
set_option maxHeartbeats 4000000 in
set_option maxRecDepth 10000 in
theorem sf_X9_trace_0_x (M : pvM) (hok : pvOk M) (n1 : Int32) (d : Nat) : PW 206 d (0, [some (pvR 0), some (pvI n1)], [], M) (fun r X => r = some (pvI ((if n1 < 0 then (-1) else (if (M.1 3 1) ≤ n1 then (-1) else (if n1 < 20 then (M.1 4 (Int32.toNatClampNeg n1)) else (-1)))))) ∧ X = M) := by
  have hT : pvdom 206 = pvD_206 := rfl
  refine pw_blk hT 1 (S' := (1, [some (pvR 0), some (pvI n1)], [pvI n1], M)) rfl ⟨trivial, trivial⟩ ?_
  refine pw_if hT (c := n1 < 0) rfl rfl (fun c1_ => ?_) (fun c1_ => ?_)
  · have b2_ : (-2147483648) ≤ Int32.toInt n1 ∧ Int32.toInt n1 ≤ (-1) := zr_lt_l (-1) c1_ (zbnd n1) (show 0 ≤ Int32.toInt 0 ∧ Int32.toInt 0 ≤ 0 from (by decide)) (by decide)
    refine pw_blk hT 1 (S' := (22, [some (pvR 0), some (pvI n1)], [pvI (-1)], M)) rfl ⟨trivial, trivial⟩ ?_
    exact pw_ret hT rfl (r := some (pvI (-1))) (M' := M) ⟨rfl, rfl⟩ ⟨(by rw [if_pos c1_]), rfl⟩
  · have b3_ : 0 ≤ Int32.toInt n1 ∧ Int32.toInt n1 ≤ 2147483647 := zr_nlt_l 0 c1_ (zbnd n1) (show 0 ≤ Int32.toInt 0 ∧ Int32.toInt 0 ≤ 0 from (by decide)) (by decide)
    have b4_ : 0 ≤ Int32.toInt (M.1 3 1) ∧ Int32.toInt (M.1 3 1) ≤ 1000000 := pvok_r hok 3 1 rfl
    refine pw_blk hT 4 (S' := (12, [some (pvR 0), some (pvI n1)], [pvI (M.1 3 1), pvI n1], M)) rfl ⟨trivial, trivial, rfl, rfl, trivial⟩ ?_
    refine pw_ic hT (c := (M.1 3 1) ≤ n1) rfl rfl (fun c5_ => ?_) (fun c5_ => ?_)
    · have d6_ : Int32.toInt (M.1 3 1) ≤ Int32.toInt n1 := (zi_le _ _).mp c5_
      refine pw_blk hT 1 (S' := (22, [some (pvR 0), some (pvI n1)], [pvI (-1)], M)) rfl ⟨trivial, trivial⟩ ?_
      exact pw_ret hT rfl (r := some (pvI (-1))) (M' := M) ⟨rfl, rfl⟩ ⟨(by rw [if_neg c1_, if_pos c5_]), rfl⟩
    · have b7_ : 1 ≤ Int32.toInt (M.1 3 1) ∧ Int32.toInt (M.1 3 1) ≤ 1000000 := zr_nle_l 1 c5_ b4_ b3_ (by decide)
      have b8_ : 0 ≤ Int32.toInt n1 ∧ Int32.toInt n1 ≤ 999999 := zr_nle_r 999999 c5_ b3_ b7_ (by decide)
      have d9_ : Int32.toInt (M.1 3 1) > Int32.toInt n1 := Int.not_le.mp ((not_congr (zi_le _ _)).mp c5_)
      refine pw_blk hT 2 (S' := (18, [some (pvR 0), some (pvI n1)], [pvI 20, pvI n1], M)) rfl ⟨trivial, trivial, trivial⟩ ?_
      refine pw_ic hT (c := n1 < 20) rfl rfl (fun c10_ => ?_) (fun c10_ => ?_)
      · have b11_ : 0 ≤ Int32.toInt n1 ∧ Int32.toInt n1 ≤ 19 := zr_lt_l 19 c10_ b8_ (show 20 ≤ Int32.toInt 20 ∧ Int32.toInt 20 ≤ 20 from (by decide)) (by decide)
        have b12_ : 0 ≤ Int32.toInt (M.1 4 (Int32.toNatClampNeg n1)) ∧ Int32.toInt (M.1 4 (Int32.toNatClampNeg n1)) ≤ 1000 := pvok_r hok 4 (Int32.toNatClampNeg n1) rfl
        refine pw_blk hT 5 (S' := (32, [some (pvR 0), some (pvI n1)], [pvI (M.1 4 (Int32.toNatClampNeg n1))], M)) rfl ⟨trivial, rfl, rfl, trivial, ⟨rfl, (zr_in (n := 20) b11_ (by decide) (by decide))⟩, trivial⟩ ?_
        exact pw_ret hT rfl (r := some (pvI (M.1 4 (Int32.toNatClampNeg n1)))) (M' := M) ⟨rfl, rfl⟩ ⟨(by rw [if_neg c1_, if_neg c5_, if_pos c10_]), rfl⟩
      · have b13_ : 20 ≤ Int32.toInt n1 ∧ Int32.toInt n1 ≤ 999999 := zr_nlt_l 20 c10_ b8_ (show 20 ≤ Int32.toInt 20 ∧ Int32.toInt 20 ≤ 20 from (by decide)) (by decide)
        refine pw_blk hT 1 (S' := (22, [some (pvR 0), some (pvI n1)], [pvI (-1)], M)) rfl ⟨trivial, trivial⟩ ?_
        exact pw_ret hT rfl (r := some (pvI (-1))) (M' := M) ⟨rfl, rfl⟩ ⟨(by rw [if_neg c1_, if_neg c5_, if_neg c10_]), rfl⟩
def fpL_X1_goAsTwo_5 : List (Nat × Nat × Nat) := [(0, 12, 0)]
def fp_X1_goAsTwo_5 (q k : Nat) : Bool := pvfp fpL_X1_goAsTwo_5 q k
theorem fp_X1_goAsTwo_5_fp_X1_goAlong_5_100_x_x_x (a b : Nat) (h : fp_X1_goAlong_5_100_x_x_x a b = true) : fp_X1_goAsTwo_5 a b = true := pvfp_sub (l1 := fpL_X1_goAlong_5_100_x_x_x) (l2 := fpL_X1_goAsTwo_5) (by decide) a b h
set_option maxHeartbeats 4000000 in
set_option maxRecDepth 10000 in
theorem sf_X1_goAsTwo_5 (M : pvM) (hok : pvOk M) (d : Nat) : PW 110 d (0, [some (pvR 5), none, none, none], [], M) (fun r X => (∃ x : Int32, r = some (pvI x) ∧ 0 ≤ Int32.toInt x ∧ Int32.toInt x ≤ 64000) ∧ pvOk X ∧ pvFr fp_X1_goAsTwo_5 M X) := by
  have hT : pvdom 110 = pvD_110 := rfl
  have b1_ : 0 ≤ Int32.toInt (M.1 100 0) ∧ Int32.toInt (M.1 100 0) ≤ 7 := pvok_r hok 100 0 rfl
  have q2_ : Int32.toInt ((M.1 100 0) / 2) = Int32.toInt (M.1 100 0) / 2 := by have u0 := b1_; have u := zdiv_p (M.1 100 0) 2 (by omega) (by decide) (by decide); have e0 : nI 2 = (2 : Int32) := rfl; rw [e0] at u; omega
  have b3_ : 0 ≤ Int32.toInt ((M.1 100 0) / 2) ∧ Int32.toInt ((M.1 100 0) / 2) ≤ 3 := (by have u0 := b1_; omega)
  obtain ⟨q5_, b4_⟩ : (Int32.toInt ((M.1 100 0) - ((M.1 100 0) / 2)) = Int32.toInt (M.1 100 0) - Int32.toInt ((M.1 100 0) / 2)) ∧ ((-3) ≤ Int32.toInt ((M.1 100 0) - ((M.1 100 0) / 2)) ∧ Int32.toInt ((M.1 100 0) - ((M.1 100 0) / 2)) ≤ 7) := zsub_r (M.1 100 0) ((M.1 100 0) / 2) (-3) 7 b1_ b3_ (by decide) (by decide) (by decide) (by decide)
  have b6_ : 0 ≤ Int32.toInt (M.1 8 4) ∧ Int32.toInt (M.1 8 4) ≤ 9999 := pvok_r hok 8 4 rfl
  refine pw_blk hT 20 (S' := (34, [some (pvR 5), some (pvI (M.1 100 0)), some (pvI ((M.1 100 0) - ((M.1 100 0) / 2))), none], [pvI (M.1 8 4), pvI ((M.1 100 0) - ((M.1 100 0) / 2)), pvI 0, pvR 100, pvR 5], M)) rfl ⟨trivial, rfl, rfl, rfl, trivial, trivial, trivial, trivial, (by decide), trivial, trivial, trivial, trivial, rfl, rfl, trivial, trivial, trivial, rfl, rfl, trivial⟩ ?_
  refine pw_callG hT (as := [pvR 5, pvR 100, pvI 0, pvI ((M.1 100 0) - ((M.1 100 0) / 2)), pvI (M.1 8 4)]) (lo1 := [some (pvR 5), some (pvR 100), some (pvI 0), some (pvI ((M.1 100 0) - ((M.1 100 0) / 2))), some (pvI (M.1 8 4)), none, none, none, none, none]) (d1 := d) (rest := []) rfl rfl rfl rfl rfl (fun _ => rfl) (Nat.zero_le _) rfl rfl rfl (sf_X1_goAlong_5_100_x_x_x M hok 0 ((M.1 100 0) - ((M.1 100 0) / 2)) (M.1 8 4) (zr_wide (show 0 ≤ Int32.toInt 0 ∧ Int32.toInt 0 ≤ 0 from (by decide)) (by decide) (by decide)) (by have u0 := b4_; omega) (zr_wide b6_ (by decide) (by decide)) d) (fun x7_ M8_ b9_ o10_ g11_ => ?_)
  have f12_ : pvFr fp_X1_goAsTwo_5 M M8_ := pvfr_t g11_ pvfr_0 fp_X1_goAsTwo_5_fp_X1_goAlong_5_100_x_x_x
  have b13_ : 0 ≤ Int32.toInt (M8_.1 8 4) ∧ Int32.toInt (M8_.1 8 4) ≤ 9999 := pvok_r o10_ 8 4 rfl
  refine pw_blk hT 11 (S' := (56, [some (pvR 5), some (pvI (M.1 100 0)), some (pvI ((M.1 100 0) - ((M.1 100 0) / 2))), some (pvI x7_)], [pvI (M8_.1 8 4), pvI (M.1 100 0), pvI ((M.1 100 0) - ((M.1 100 0) / 2)), pvR 100, pvR 5, pvI x7_], M8_)) rfl ⟨trivial, trivial, trivial, trivial, rfl, rfl, trivial, trivial, trivial, rfl, rfl, trivial⟩ ?_
  refine pw_callG hT (as := [pvR 5, pvR 100, pvI ((M.1 100 0) - ((M.1 100 0) / 2)), pvI (M.1 100 0), pvI (M8_.1 8 4)]) (lo1 := [some (pvR 5), some (pvR 100), some (pvI ((M.1 100 0) - ((M.1 100 0) / 2))), some (pvI (M.1 100 0)), some (pvI (M8_.1 8 4)), none, none, none, none, none]) (d1 := d) (rest := [pvI x7_]) rfl rfl rfl rfl rfl (fun _ => rfl) (Nat.zero_le _) rfl rfl rfl (sf_X1_goAlong_5_100_x_x_x M8_ o10_ ((M.1 100 0) - ((M.1 100 0) / 2)) (M.1 100 0) (M8_.1 8 4) (by have u0 := b4_; omega) b1_ (zr_wide b13_ (by decide) (by decide)) d) (fun x14_ M15_ b16_ o17_ g18_ => ?_)
  have f19_ : pvFr fp_X1_goAsTwo_5 M M15_ := pvfr_t g18_ f12_ fp_X1_goAsTwo_5_fp_X1_goAlong_5_100_x_x_x
  have q20_ : Int32.toInt (if x7_ < x14_ then x14_ else x7_) = max (Int32.toInt x7_) (Int32.toInt x14_) := pvmax x7_ x14_
  have b21_ : 0 ≤ Int32.toInt (if x7_ < x14_ then x14_ else x7_) ∧ Int32.toInt (if x7_ < x14_ then x14_ else x7_) ≤ 64000 := (by have u0 := b9_; have u1 := b16_; omega)
  refine pw_blk hT 1 (S' := (62, [some (pvR 5), some (pvI (M.1 100 0)), some (pvI ((M.1 100 0) - ((M.1 100 0) / 2))), some (pvI x7_)], [pvI (if x7_ < x14_ then x14_ else x7_)], M15_)) rfl ⟨(Nat.le_of_ble_eq_true rfl), trivial⟩ ?_
  exact pw_ret hT rfl (r := some (pvI (if x7_ < x14_ then x14_ else x7_))) (M' := M15_) ⟨rfl, rfl⟩ ⟨⟨_, rfl, b21_⟩, o17_, f19_⟩
def fpL_X9_two_0_x : List (Nat × Nat × Nat) := [(0, 12, 0), (0, 13, 0), (0, 14, 0), (0, 5, 2), (0, 5, 3), (1, 112, 0)]
def fp_X9_two_0_x (q k : Nat) : Bool := pvfp fpL_X9_two_0_x q k
theorem fp_X9_two_0_x_fp_X1_beginFromNow_5 (a b : Nat) (h : fp_X1_beginFromNow_5 a b = true) : fp_X9_two_0_x a b = true := pvfp_sub (l1 := fpL_X1_beginFromNow_5) (l2 := fpL_X9_two_0_x) (by decide) a b h
theorem fp_X9_two_0_x_fp_X1_goAsTwo_5 (a b : Nat) (h : fp_X1_goAsTwo_5 a b = true) : fp_X9_two_0_x a b = true := pvfp_sub (l1 := fpL_X1_goAsTwo_5) (l2 := fpL_X9_two_0_x) (by decide) a b h
set_option maxHeartbeats 4000000 in
set_option maxRecDepth 10000 in
theorem sf_X9_two_0_x (M : pvM) (hok : pvOk M) (n1 : Int32) (d : Nat) : PW 207 d (0, [some (pvR 0), some (pvI n1), none], [], M) (fun r X => (∃ x : Int32, r = some (pvI x) ∧ True) ∧ pvOk X ∧ pvFr fp_X9_two_0_x M X) := by
  have hT : pvdom 207 = pvD_207 := rfl
  refine pw_blk hT 3 (S' := (3, [some (pvR 0), some (pvI n1), none], [pvI 1, pvI 0, pvI n1], M)) rfl ⟨trivial, trivial, trivial, trivial⟩ ?_
  refine pw_callT hT (as := [pvI n1, pvI 0, pvI 1]) (lo1 := [some (pvI n1), some (pvI 0), some (pvI 1)]) (d1 := d) (rest := []) rfl rfl rfl rfl rfl (fun h => absurd h (by decide)) (Nat.zero_le _) rfl rfl rfl (sf_X9_within_x_x_x M hok n1 0 1 d) ?_
  by_cases c6_ : n1 < 0
  · refine pw_eqI (if_pos c6_) ?_
    have b7_ : (-2147483648) ≤ Int32.toInt n1 ∧ Int32.toInt n1 ≤ (-1) := zr_lt_l (-1) c6_ (zbnd n1) (show 0 ≤ Int32.toInt 0 ∧ Int32.toInt 0 ≤ 0 from (by decide)) (by decide)
    show PW 207 d (6, [some (pvR 0), some (pvI n1), none], [pvI 0], M) _
    refine pw_ifn hT (c := 0 = 0) rfl rfl (fun c8_ => absurd (by decide) c8_) (fun c8_ => ?_)
    refine pw_blk hT 1 (S' := (10, [some (pvR 0), some (pvI n1), none], [pvI (-1)], M)) rfl ⟨trivial, trivial⟩ ?_
    exact pw_ret hT rfl (r := some (pvI (-1))) (M' := M) ⟨rfl, rfl⟩ ⟨⟨_, rfl, trivial⟩, hok, pvfr_0⟩
  · refine pw_eqI (if_neg c6_) ?_
    have b9_ : 0 ≤ Int32.toInt n1 ∧ Int32.toInt n1 ≤ 2147483647 := zr_nlt_l 0 c6_ (zbnd n1) (show 0 ≤ Int32.toInt 0 ∧ Int32.toInt 0 ≤ 0 from (by decide)) (by decide)
    by_cases c10_ : 1 < n1
    · refine pw_eqI (if_pos c10_) ?_
      have b11_ : 2 ≤ Int32.toInt n1 ∧ Int32.toInt n1 ≤ 2147483647 := zr_lt_r 2 c10_ b9_ (show 1 ≤ Int32.toInt 1 ∧ Int32.toInt 1 ≤ 1 from (by decide)) (by decide)
      show PW 207 d (6, [some (pvR 0), some (pvI n1), none], [pvI 0], M) _
      refine pw_ifn hT (c := 0 = 0) rfl rfl (fun c12_ => absurd (by decide) c12_) (fun c12_ => ?_)
      refine pw_blk hT 1 (S' := (10, [some (pvR 0), some (pvI n1), none], [pvI (-1)], M)) rfl ⟨trivial, trivial⟩ ?_
      exact pw_ret hT rfl (r := some (pvI (-1))) (M' := M) ⟨rfl, rfl⟩ ⟨⟨_, rfl, trivial⟩, hok, pvfr_0⟩
    · refine pw_eqI (if_neg c10_) ?_
      have b13_ : 0 ≤ Int32.toInt n1 ∧ Int32.toInt n1 ≤ 1 := zr_nlt_r 1 c10_ b9_ (show 1 ≤ Int32.toInt 1 ∧ Int32.toInt 1 ≤ 1 from (by decide)) (by decide)
      show PW 207 d (6, [some (pvR 0), some (pvI n1), none], [pvI 1], M) _
      refine pw_ifn hT (c := 1 = 0) rfl rfl (fun c14_ => ?_) (fun c14_ => absurd c14_ (by decide))
      refine pw_blk hT 2 (S' := (15, [some (pvR 0), some (pvI n1), none], [pvR 5], M)) rfl ⟨trivial, rfl, trivial⟩ ?_
      refine pw_callV hT (as := [pvR 5]) (lo1 := [some (pvR 5)]) (d1 := d) (rest := []) rfl rfl rfl rfl rfl (fun _ => rfl) (Nat.zero_le _) rfl rfl rfl (sf_X1_beginFromNow_5 M hok d) (fun M16_ o18_ g19_ => ?_)
      have f20_ : pvFr fp_X9_two_0_x M M16_ := pvfr_t g19_ pvfr_0 fp_X9_two_0_x_fp_X1_beginFromNow_5
      refine pw_blk hT 2 (S' := (22, [some (pvR 0), some (pvI n1), none], [pvR 5], M16_)) rfl ⟨trivial, rfl, trivial⟩ ?_
      refine pw_callG hT (as := [pvR 5]) (lo1 := [some (pvR 5), none, none, none]) (d1 := d) (rest := []) rfl rfl rfl rfl rfl (fun _ => rfl) (Nat.zero_le _) rfl rfl rfl (sf_X1_goAsTwo_5 M16_ o18_ d) (fun x21_ M22_ b23_ o24_ g25_ => ?_)
      have f26_ : pvFr fp_X9_two_0_x M M22_ := pvfr_t g25_ f20_ fp_X9_two_0_x_fp_X1_goAsTwo_5
      refine pw_blk hT 2 (S' := (27, [some (pvR 0), some (pvI n1), some (pvI x21_)], [pvI n1], M22_)) rfl ⟨trivial, trivial, trivial⟩ ?_
      refine pw_ifn hT (c := n1 = 0) rfl rfl (fun c27_ => ?_) (fun c27_ => ?_)
      · have b28_ : 1 ≤ Int32.toInt n1 ∧ Int32.toInt n1 ≤ 1 := (by have u0 := b13_; have u1 := (not_congr (zi_eq _ _)).mp c27_; have u2 := (show 0 ≤ Int32.toInt 0 ∧ Int32.toInt 0 ≤ 0 from (by decide)); omega)
        refine pw_blk hT 1 (S' := (41, [some (pvR 0), some (pvI n1), some (pvI x21_)], [pvI x21_], M22_)) rfl ⟨trivial, trivial⟩ ?_
        exact pw_ret hT rfl (r := some (pvI x21_)) (M' := M22_) ⟨rfl, rfl⟩ ⟨⟨_, rfl, trivial⟩, o24_, f26_⟩
      · have b29_ : 0 ≤ Int32.toInt n1 ∧ Int32.toInt n1 ≤ 0 := (by have u0 := b13_; have u1 := (zi_eq _ _).mp c27_; have u2 := (show 0 ≤ Int32.toInt 0 ∧ Int32.toInt 0 ≤ 0 from (by decide)); omega)
        refine pw_blk hT 2 (S' := (34, [some (pvR 0), some (pvI n1), some (pvI x21_)], [pvR 5], M22_)) rfl ⟨trivial, rfl, trivial⟩ ?_
        refine pw_callGp hT (as := [pvR 5]) (lo1 := [some (pvR 5)]) (d1 := d) (rest := []) rfl rfl rfl rfl rfl (fun _ => rfl) (Nat.zero_le _) rfl rfl rfl (sf_X1_cost_5 M22_ o24_ d) (fun x30_ b32_ => ?_)
        refine pw_blk hT 1 (S' := (41, [some (pvR 0), some (pvI n1), some (pvI x21_)], [pvI x30_], M22_)) rfl ⟨trivial, trivial⟩ ?_
        exact pw_ret hT rfl (r := some (pvI x30_)) (M' := M22_) ⟨rfl, rfl⟩ ⟨⟨_, rfl, trivial⟩, o24_, f26_⟩
def fpL_X9_worth_0_x : List (Nat × Nat × Nat) := [(0, 12, 0), (0, 13, 0), (0, 14, 0), (0, 5, 2), (0, 5, 3), (1, 112, 0)]
def fp_X9_worth_0_x (q k : Nat) : Bool := pvfp fpL_X9_worth_0_x q k
theorem fp_X9_worth_0_x_fp_X1_beginFromNow_5 (a b : Nat) (h : fp_X1_beginFromNow_5 a b = true) : fp_X9_worth_0_x a b = true := pvfp_sub (l1 := fpL_X1_beginFromNow_5) (l2 := fpL_X9_worth_0_x) (by decide) a b h
set_option maxHeartbeats 4000000 in
set_option maxRecDepth 10000 in
theorem sf_X9_worth_0_x (M : pvM) (hok : pvOk M) (n1 : Int32) (d : Nat) : PW 212 d (0, [some (pvR 0), some (pvI n1), none], [], M) (fun r X => (∃ x : Int32, r = some (pvI x) ∧ True) ∧ pvOk X ∧ pvFr fp_X9_worth_0_x M X) := by
  have hT : pvdom 212 = pvD_212 := rfl
  refine pw_blk hT 3 (S' := (5, [some (pvR 0), some (pvI n1), none], [pvI n1, pvR 8], M)) rfl ⟨trivial, rfl, trivial, trivial⟩ ?_
  refine pw_callT hT (as := [pvR 8, pvI n1]) (lo1 := [some (pvR 8), some (pvI n1)]) (d1 := d) (rest := []) rfl rfl rfl rfl rfl (fun _ => rfl) (Nat.zero_le _) rfl rfl rfl (sf_X7_has_8_x M hok n1 d) ?_
  by_cases c6_ : n1 < 0
  · refine pw_eqI (if_pos c6_) ?_
    have b7_ : (-2147483648) ≤ Int32.toInt n1 ∧ Int32.toInt n1 ≤ (-1) := zr_lt_l (-1) c6_ (zbnd n1) (show 0 ≤ Int32.toInt 0 ∧ Int32.toInt 0 ≤ 0 from (by decide)) (by decide)
    show PW 212 d (8, [some (pvR 0), some (pvI n1), none], [pvI 0], M) _
    refine pw_ifn hT (c := 0 = 0) rfl rfl (fun c8_ => absurd (by decide) c8_) (fun c8_ => ?_)
    refine pw_blk hT 1 (S' := (12, [some (pvR 0), some (pvI n1), none], [pvI (-1)], M)) rfl ⟨trivial, trivial⟩ ?_
    exact pw_ret hT rfl (r := some (pvI (-1))) (M' := M) ⟨rfl, rfl⟩ ⟨⟨_, rfl, trivial⟩, hok, pvfr_0⟩
  · refine pw_eqI (if_neg c6_) ?_
    have b9_ : 0 ≤ Int32.toInt n1 ∧ Int32.toInt n1 ≤ 2147483647 := zr_nlt_l 0 c6_ (zbnd n1) (show 0 ≤ Int32.toInt 0 ∧ Int32.toInt 0 ≤ 0 from (by decide)) (by decide)
    have b10_ : 0 ≤ Int32.toInt (M.1 8 1) ∧ Int32.toInt (M.1 8 1) ≤ 7 := pvok_r hok 8 1 rfl
    by_cases c11_ : (M.1 8 1) ≤ n1
    · refine pw_eqI (if_pos c11_) ?_
      have d12_ : Int32.toInt (M.1 8 1) ≤ Int32.toInt n1 := (zi_le _ _).mp c11_
      show PW 212 d (8, [some (pvR 0), some (pvI n1), none], [pvI 0], M) _
      refine pw_ifn hT (c := 0 = 0) rfl rfl (fun c13_ => absurd (by decide) c13_) (fun c13_ => ?_)
      refine pw_blk hT 1 (S' := (12, [some (pvR 0), some (pvI n1), none], [pvI (-1)], M)) rfl ⟨trivial, trivial⟩ ?_
      exact pw_ret hT rfl (r := some (pvI (-1))) (M' := M) ⟨rfl, rfl⟩ ⟨⟨_, rfl, trivial⟩, hok, pvfr_0⟩
    · refine pw_eqI (if_neg c11_) ?_
      have b14_ : 1 ≤ Int32.toInt (M.1 8 1) ∧ Int32.toInt (M.1 8 1) ≤ 7 := zr_nle_l 1 c11_ b10_ b9_ (by decide)
      have b15_ : 0 ≤ Int32.toInt n1 ∧ Int32.toInt n1 ≤ 6 := zr_nle_r 6 c11_ b9_ b14_ (by decide)
      have d16_ : Int32.toInt (M.1 8 1) > Int32.toInt n1 := Int.not_le.mp ((not_congr (zi_le _ _)).mp c11_)
      show PW 212 d (8, [some (pvR 0), some (pvI n1), none], [pvI 1], M) _
      refine pw_ifn hT (c := 1 = 0) rfl rfl (fun c17_ => ?_) (fun c17_ => absurd c17_ (by decide))
      refine pw_blk hT 2 (S' := (17, [some (pvR 0), some (pvI n1), none], [pvR 5], M)) rfl ⟨trivial, rfl, trivial⟩ ?_
      refine pw_callV hT (as := [pvR 5]) (lo1 := [some (pvR 5)]) (d1 := d) (rest := []) rfl rfl rfl rfl rfl (fun _ => rfl) (Nat.zero_le _) rfl rfl rfl (sf_X1_beginFromNow_5 M hok d) (fun M19_ o21_ g22_ => ?_)
      have f23_ : pvFr fp_X9_worth_0_x M M19_ := pvfr_t g22_ pvfr_0 fp_X9_worth_0_x_fp_X1_beginFromNow_5
      refine pw_blk hT 2 (S' := (24, [some (pvR 0), some (pvI n1), none], [pvR 5], M19_)) rfl ⟨trivial, rfl, trivial⟩ ?_
      refine pw_callGp hT (as := [pvR 5]) (lo1 := [some (pvR 5)]) (d1 := d) (rest := []) rfl rfl rfl rfl rfl (fun _ => rfl) (Nat.zero_le _) rfl rfl rfl (sf_X1_cost_5 M19_ o21_ d) (fun x24_ b26_ => ?_)
      refine pw_blkw hT 7 (pc := 38) (lo := [some (pvR 0), some (pvI n1), some (pvI x24_)]) (st := []) (M := pvu M19_ 12 (Int32.toNatClampNeg n1) 0) rfl ⟨trivial, trivial, rfl, rfl, trivial, trivial, ⟨rfl, (zr_in (n := 7) b15_ (by decide) (by decide))⟩, trivial⟩ (fun M29_ e30_ => ?_)
      have o31_ : pvOk M29_ := pvok_u2 e30_ o21_ rfl (zr_wide (show 0 ≤ Int32.toInt 0 ∧ Int32.toInt 0 ≤ 0 from (by decide)) (by decide) (by decide))
      have f32_ : pvFr fp_X9_worth_0_x M M29_ := pvfr_u e30_ f23_ rfl
      refine pw_blk hT 3 (S' := (43, [some (pvR 0), some (pvI n1), some (pvI x24_)], [pvR 5, pvI x24_], M29_)) rfl ⟨trivial, trivial, rfl, trivial⟩ ?_
      refine pw_callGp hT (as := [pvR 5]) (lo1 := [some (pvR 5)]) (d1 := d) (rest := [pvI x24_]) rfl rfl rfl rfl rfl (fun _ => rfl) (Nat.zero_le _) rfl rfl rfl (sf_X1_cost_5 M29_ o31_ d) (fun x33_ b35_ => ?_)
      refine pw_blk hT 1 (S' := (47, [some (pvR 0), some (pvI n1), some (pvI x24_)], [pvI (x24_ - x33_)], M29_)) rfl ⟨trivial, trivial⟩ ?_
      exact pw_ret hT rfl (r := some (pvI (x24_ - x33_))) (M' := M29_) ⟨rfl, rfl⟩ ⟨⟨_, rfl, trivial⟩, o31_, f32_⟩
