set_option maxHeartbeats 4000000 in
set_option maxRecDepth 10000 in
theorem sf_X9_told_0_x (M : pvM) (hok : pvOk M) (n1 : Int32) (d : Nat) : PW 205 d (0, [some (pvR 0), some (pvI n1)], [], M) (fun r X => (∃ x : Int32, r = some (pvI x) ∧ True) ∧ X = M) := by
  have hT : pvdom 205 = pvD_205 := rfl
  refine pw_blk hT 1 (S' := (1, [some (pvR 0), some (pvI n1)], [pvI n1], M)) rfl ⟨trivial, trivial⟩ ?_
  refine pw_sw hT rfl rfl ?_
  refine And.intro (fun c1_ => ?_) (fun c1_ => ?_)
  · show PW 205 d (52, [some (pvR 0), some (pvI n1)], [], M) _
    have b2_ : 0 ≤ Int32.toInt n1 ∧ Int32.toInt n1 ≤ 0 := (by have u0 := (zbnd n1); have u1 := (zi_eq _ _).mp c1_; have u2 := (show 0 ≤ Int32.toInt 0 ∧ Int32.toInt 0 ≤ 0 from (by decide)); omega)
    have b3_ : 0 ≤ Int32.toInt (M.1 8 4) ∧ Int32.toInt (M.1 8 4) ≤ 9999 := pvok_r hok 8 4 rfl
    refine pw_blk hT 3 (S' := (59, [some (pvR 0), some (pvI n1)], [pvI (M.1 8 4)], M)) rfl ⟨trivial, rfl, rfl, trivial⟩ ?_
    exact pw_ret hT rfl (r := some (pvI (M.1 8 4))) (M' := M) ⟨rfl, rfl⟩ ⟨⟨_, rfl, trivial⟩, rfl⟩
  · refine And.intro (fun c4_ => ?_) (fun c4_ => ?_)
    · show PW 205 d (60, [some (pvR 0), some (pvI n1)], [], M) _
      have b5_ : 1 ≤ Int32.toInt n1 ∧ Int32.toInt n1 ≤ 1 := (by have u0 := (zbnd n1); have u1 := (zi_eq _ _).mp c4_; have u2 := (show 1 ≤ Int32.toInt 1 ∧ Int32.toInt 1 ≤ 1 from (by decide)); omega)
      refine pw_blk hT 3 (S' := (67, [some (pvR 0), some (pvI n1)], [pvI (M.1 8 5)], M)) rfl ⟨trivial, rfl, rfl, trivial⟩ ?_
      exact pw_ret hT rfl (r := some (pvI (M.1 8 5))) (M' := M) ⟨rfl, rfl⟩ ⟨⟨_, rfl, trivial⟩, rfl⟩
    · refine And.intro (fun c6_ => ?_) (fun c6_ => ?_)
      · show PW 205 d (68, [some (pvR 0), some (pvI n1)], [], M) _
        have b7_ : 2 ≤ Int32.toInt n1 ∧ Int32.toInt n1 ≤ 2 := (by have u0 := (zbnd n1); have u1 := (zi_eq _ _).mp c6_; have u2 := (show 2 ≤ Int32.toInt 2 ∧ Int32.toInt 2 ≤ 2 from (by decide)); omega)
        have b8_ : 0 ≤ Int32.toInt (M.1 8 2) ∧ Int32.toInt (M.1 8 2) ≤ 99 := pvok_r hok 8 2 rfl
        refine pw_blk hT 3 (S' := (75, [some (pvR 0), some (pvI n1)], [pvI (M.1 8 2)], M)) rfl ⟨trivial, rfl, rfl, trivial⟩ ?_
        exact pw_ret hT rfl (r := some (pvI (M.1 8 2))) (M' := M) ⟨rfl, rfl⟩ ⟨⟨_, rfl, trivial⟩, rfl⟩
      · refine And.intro (fun c9_ => ?_) (fun c9_ => ?_)
        · show PW 205 d (76, [some (pvR 0), some (pvI n1)], [], M) _
          have b10_ : 3 ≤ Int32.toInt n1 ∧ Int32.toInt n1 ≤ 3 := (by have u0 := (zbnd n1); have u1 := (zi_eq _ _).mp c9_; have u2 := (show 3 ≤ Int32.toInt 3 ∧ Int32.toInt 3 ≤ 3 from (by decide)); omega)
          have b11_ : 0 ≤ Int32.toInt (M.1 8 3) ∧ Int32.toInt (M.1 8 3) ≤ 3 := pvok_r hok 8 3 rfl
          refine pw_blk hT 3 (S' := (83, [some (pvR 0), some (pvI n1)], [pvI (M.1 8 3)], M)) rfl ⟨trivial, rfl, rfl, trivial⟩ ?_
          exact pw_ret hT rfl (r := some (pvI (M.1 8 3))) (M' := M) ⟨rfl, rfl⟩ ⟨⟨_, rfl, trivial⟩, rfl⟩
        · refine And.intro (fun c12_ => ?_) (fun c12_ => ?_)
          · show PW 205 d (84, [some (pvR 0), some (pvI n1)], [], M) _
            have b13_ : 4 ≤ Int32.toInt n1 ∧ Int32.toInt n1 ≤ 4 := (by have u0 := (zbnd n1); have u1 := (zi_eq _ _).mp c12_; have u2 := (show 4 ≤ Int32.toInt 4 ∧ Int32.toInt 4 ≤ 4 from (by decide)); omega)
            have b14_ : 15 ≤ Int32.toInt (M.1 8 8) ∧ Int32.toInt (M.1 8 8) ≤ 23 := pvok_r hok 8 8 rfl
            refine pw_blkr hT 3 (pc := 91) (lo := [some (pvR 0), some (pvI n1)]) (st := []) (M := M) (z := (pvhp (M.1 8 8))) rfl ⟨trivial, rfl, rfl, trivial⟩ (fun q15_ e17_ => ?_)
            have k16_ : pvkl q15_ = 2 := pvhp_k b14_ e17_
            have b18_ : 0 ≤ Int32.toInt (M.1 q15_ 0) ∧ Int32.toInt (M.1 q15_ 0) ≤ 99 := pvok_r hok q15_ 0 ((pvrg_o 0 k16_ (by decide) (by decide)).trans rfl)
            refine pw_blk hT 1 (S' := (94, [some (pvR 0), some (pvI n1)], [pvI (M.1 q15_ 0)], M)) rfl ⟨k16_, trivial⟩ ?_
            exact pw_ret hT rfl (r := some (pvI (M.1 q15_ 0))) (M' := M) ⟨rfl, rfl⟩ ⟨⟨_, rfl, trivial⟩, rfl⟩
          · refine And.intro (fun c19_ => ?_) (fun c19_ => ?_)
            · show PW 205 d (95, [some (pvR 0), some (pvI n1)], [], M) _
              have b20_ : 5 ≤ Int32.toInt n1 ∧ Int32.toInt n1 ≤ 5 := (by have u0 := (zbnd n1); have u1 := (zi_eq _ _).mp c19_; have u2 := (show 5 ≤ Int32.toInt 5 ∧ Int32.toInt 5 ≤ 5 from (by decide)); omega)
              have b21_ : 15 ≤ Int32.toInt (M.1 8 8) ∧ Int32.toInt (M.1 8 8) ≤ 23 := pvok_r hok 8 8 rfl
              refine pw_blkr hT 3 (pc := 102) (lo := [some (pvR 0), some (pvI n1)]) (st := []) (M := M) (z := (pvhp (M.1 8 8))) rfl ⟨trivial, rfl, rfl, trivial⟩ (fun q22_ e24_ => ?_)
              have k23_ : pvkl q22_ = 2 := pvhp_k b21_ e24_
              have b25_ : 0 ≤ Int32.toInt (M.1 q22_ 1) ∧ Int32.toInt (M.1 q22_ 1) ≤ 99 := pvok_r hok q22_ 1 ((pvrg_o 1 k23_ (by decide) (by decide)).trans rfl)
              refine pw_blk hT 1 (S' := (105, [some (pvR 0), some (pvI n1)], [pvI (M.1 q22_ 1)], M)) rfl ⟨k23_, trivial⟩ ?_
              exact pw_ret hT rfl (r := some (pvI (M.1 q22_ 1))) (M' := M) ⟨rfl, rfl⟩ ⟨⟨_, rfl, trivial⟩, rfl⟩
            · refine And.intro (fun c26_ => ?_) (fun c26_ => ?_)
              · show PW 205 d (106, [some (pvR 0), some (pvI n1)], [], M) _
                have b27_ : 6 ≤ Int32.toInt n1 ∧ Int32.toInt n1 ≤ 6 := (by have u0 := (zbnd n1); have u1 := (zi_eq _ _).mp c26_; have u2 := (show 6 ≤ Int32.toInt 6 ∧ Int32.toInt 6 ≤ 6 from (by decide)); omega)
                have b28_ : 0 ≤ Int32.toInt (M.1 8 6) ∧ Int32.toInt (M.1 8 6) ≤ 3 := pvok_r hok 8 6 rfl
                refine pw_blk hT 3 (S' := (113, [some (pvR 0), some (pvI n1)], [pvI (M.1 8 6)], M)) rfl ⟨trivial, rfl, rfl, trivial⟩ ?_
                exact pw_ret hT rfl (r := some (pvI (M.1 8 6))) (M' := M) ⟨rfl, rfl⟩ ⟨⟨_, rfl, trivial⟩, rfl⟩
              · refine And.intro (fun c29_ => ?_) (fun c29_ => ?_)
                · show PW 205 d (114, [some (pvR 0), some (pvI n1)], [], M) _
                  have b30_ : 7 ≤ Int32.toInt n1 ∧ Int32.toInt n1 ≤ 7 := (by have u0 := (zbnd n1); have u1 := (zi_eq _ _).mp c29_; have u2 := (show 7 ≤ Int32.toInt 7 ∧ Int32.toInt 7 ≤ 7 from (by decide)); omega)
                  have b31_ : 0 ≤ Int32.toInt (M.1 8 7) ∧ Int32.toInt (M.1 8 7) ≤ 4 := pvok_r hok 8 7 rfl
                  refine pw_blk hT 3 (S' := (121, [some (pvR 0), some (pvI n1)], [pvI (M.1 8 7)], M)) rfl ⟨trivial, rfl, rfl, trivial⟩ ?_
                  exact pw_ret hT rfl (r := some (pvI (M.1 8 7))) (M' := M) ⟨rfl, rfl⟩ ⟨⟨_, rfl, trivial⟩, rfl⟩
                · refine And.intro (fun c32_ => ?_) (fun c32_ => ?_)
                  · show PW 205 d (122, [some (pvR 0), some (pvI n1)], [], M) _
                    have b33_ : 8 ≤ Int32.toInt n1 ∧ Int32.toInt n1 ≤ 8 := (by have u0 := (zbnd n1); have u1 := (zi_eq _ _).mp c32_; have u2 := (show 8 ≤ Int32.toInt 8 ∧ Int32.toInt 8 ≤ 8 from (by decide)); omega)
                    refine pw_blk hT 2 (S' := (126, [some (pvR 0), some (pvI n1)], [pvR 8], M)) rfl ⟨trivial, rfl, trivial⟩ ?_
                    refine pw_callGp hT (as := [pvR 8]) (lo1 := [some (pvR 8), none, none]) (d1 := d) (rest := []) rfl rfl rfl rfl rfl (fun _ => rfl) (Nat.zero_le _) rfl rfl rfl (sf_X7_openBits_8 M hok d) (fun x34_ b36_ => ?_)
                    exact pw_ret hT rfl (r := some (pvI x34_)) (M' := M) ⟨rfl, rfl⟩ ⟨⟨_, rfl, trivial⟩, rfl⟩
                  · show PW 205 d (130, [some (pvR 0), some (pvI n1)], [], M) _
                    refine pw_blk hT 1 (S' := (131, [some (pvR 0), some (pvI n1)], [pvI (-1)], M)) rfl ⟨trivial, trivial⟩ ?_
                    exact pw_ret hT rfl (r := some (pvI (-1))) (M' := M) ⟨rfl, rfl⟩ ⟨⟨_, rfl, trivial⟩, rfl⟩
