theorem dL_law_18 : decode code 18 = .ok (.iload_n 3, 1) := by decide +kernel
theorem dL_law_19 : decode code 19 = .ok (.aload_n 0, 1) := by decide +kernel
theorem dL_law_20 : decode code 20 = .ok (.arraylength, 1) := by decide +kernel
theorem dL_law_21 : decode code 21 = .ok (.bipush 6, 2) := by decide +kernel
theorem dL_law_23 : decode code 23 = .ok (.isub, 1) := by decide +kernel
theorem dL_law_24 : decode code 24 = .ok (.if_icmp .gt 1319, 3) := by decide +kernel
theorem dL_law_27 : decode code 27 = .ok (.aload_n 0, 1) := by decide +kernel
theorem dL_law_28 : decode code 28 = .ok (.iload_n 3, 1) := by decide +kernel
theorem dL_law_29 : decode code 29 = .ok (.iaload, 1) := by decide +kernel
theorem dL_law_30 : decode code 30 = .ok (.bipush 63, 2) := by decide +kernel
theorem dL_law_32 : decode code 32 = .ok (.iand, 1) := by decide +kernel
theorem dL_law_33 : decode code 33 = .ok (.tableswitch 1304 0 38 #[171, 234, 267, 316, 359, 392, 425, 448, 461, 484, 507, 530, 553, 576, 599, 622, 635, 658, 671, 694, 717, 740, 763, 796, 809, 842, 865, 898, 911, 944, 957, 970, 1013, 1036, 1069, 1092, 1135, 1208, 1241], 171) := by decide +kernel
theorem dL_law_1337 : decode code 1337 = .ok (.iinc 3 6, 3) := by decide +kernel
theorem dL_law_1340 : decode code 1340 = .ok (.goto (-1322), 3) := by decide +kernel
theorem dL_law_1343 : decode code 1343 = .ok (.iconst 1, 1) := by decide +kernel
theorem dL_law_1344 : decode code 1344 = .ok (.ireturn, 1) := by decide +kernel
/-! THE CLAIM OUT OF ONE WALK OF THE LAW'S BODY. Your part is whole_start (and what it stands on); all else here is the same for every law, but numbers. -/
def R_law : String := "NineWindowsLaw"
def lw_P (b : Addr) (xs : List Int32) (args : Array Value) (s : State) : Prop := args = #[.ref b] ∧ s.IntsAt b xs ∧ xs.length ≤ 3072 ∧ (Jvm.Cond.and given_1 narrow_1).before args s = true
def lw_Q (_ : Array Value) (s : State) (o : Outcome) (t : State) : Prop := o = .returned (some (.int 1)) ∧ Framed s o t [] 600000 7302250
def lw_Z (below : List Frame) (a : Array Value) (s : State) : State → Prop := fun t => ∃ o, t.status = .running ∧ Ended t below o ∧ lw_Q a s o t
/-- the law's own end, with 1 on the stack, nothing written that was there before, its room as the claim has it -/
theorem lw_ret {p : Program} {l : Launch} {e : Env} {s : State} {m : MethodId} {below : List Frame} {meth : Method} {c : Code} {b : Nat} (hx : p.tables.exec = Jvm.exec) (hb : c.code = code) (hr : meth.sig.returnType = ret) (hlocks : meth.locks = false) {pc : Nat} {H : Heap} {ls : Array Slot} (hdg : decode code pc = .ok (.ireturn, 1)) : W p l e room_1 s m #[Value.ref b] below meth c H [] 600000 7302250 (lw_Z below #[Value.ref b] s) (F0 m pc ls [.int 1]) := by
  intro T hT X
  obtain ⟨fs, hret, hrun, hended, hW, hframe⟩ := X.leave (v := some (.int 1)) (hlocks := hlocks) (fun h => by rw [hr] at h; cases h)
  have hmeth' : T.vm.method? m = some meth := X.method'
  refine ⟨T.setFrames fs, ?_, .returned (some (.int 1)), hrun, hended, rfl, ⟨_, rfl⟩, hW, hframe⟩
  jvm_step X.here [X.here.top, hx, hb, hdg, hmeth', hr, ret, narrow_b1]
  (try refine ⟨rfl, ?_⟩); (try refine ⟨rfl, ?_⟩)
  first | (intro acts; rw [hret _ acts rfl rfl rfl]) | rw [hret _ _ rfl rfl rfl]
  exact Steps.refl _
/-- what holds at the law's entry: the machine, the code, the tables' words (any of lw_tbl by 'hts w (by decide +kernel)'), the script of L ints xs at the cell b, what the Statement gives of the start (any of its parts by flat_of_before) -/
def lw_At (p : Program) (s : State) (m : MethodId) (meth : Method) (c : Code) (b L : Nat) (xs : Nat → Int32) : Prop :=
  p.tables.exec = Jvm.exec ∧ c.code = code ∧ meth.sig.returnType = ret ∧ c.maxLocals = 4 ∧ s.vm.findClass R_law = some m.cls ∧ (∀ w ∈ lw_tbl, w.before #[Value.ref b] s = true) ∧ va_X b L xs s s.heap ∧ b < s.heap.size ∧ meth.locks = false ∧ (Jvm.Cond.and given_1 narrow_1).before #[Value.ref b] s = true
set_option maxHeartbeats 4000000 in
set_option maxRecDepth 10000 in
theorem zl_disp (htab : pvTab) {p : Program} {l : Launch} {e : Env} {s : State} {m : MethodId} {below : List Frame} {meth : Method} {c : Code} {b L : Nat} {xs : Nat → Int32} {D : va_G} {y : Nat → ClassId} {ad : Nat → Nat} {ls : Array Slot} {i : Int32} {Q : State → Prop} {M : pvM} (C : zLc p s m c b L xs D y ad ls i) (hi : zIR M) (kk : ∀ M1, zIR M1 → zLW p l e s m below meth c b D y ad ls Q 1337 [] M1) : zLW p l e s m below meth c b D y ad ls Q 27 [] M := fun H locs hW hS => by
  obtain ⟨hx, hb, hml, hown, hts, hX, hbl, hK, hE, had, hl, hi0, hi1, hL⟩ := id C
  refine lv_aload_n hx hb dL_law_27 rfl (lv_at hl 3 rfl) ?_
  refine lv_iload_n hx hb dL_law_28 rfl (lv_at hl 0 rfl) ?_
  refine va_sld hx hb hX hbl (Nat.not_le.mpr hbl) hS (vp_in_iff.mpr (by omega)) dL_law_29 ?_
  refine lv_bipush (v := 63) hx hb dL_law_30 (by decide) ?_
  refine lv_iand hx hb dL_law_32 ?_
  obtain ⟨j, hj, ej⟩ := pk_andE (xs i.toNatClampNeg) (m := 63) 6 (by decide)
  have hj : j < 64 := hj
  refine ztop (w := .int (nI j)) (congrArg Value.int ej) ?_
  by_cases h0 : j = 0
  · subst h0
    refine lv_tableIn (tgt := 204) hx hb dL_law_33 (by decide) (by decide) rfl (by decide) ?_
    exact zl_case_0 htab C hi kk H locs hW hS
  by_cases h1 : j = 1
  · subst h1
    refine lv_tableIn (tgt := 267) hx hb dL_law_33 (by decide) (by decide) rfl (by decide) ?_
    exact zl_case_1 htab C hi kk H locs hW hS
  by_cases h2 : j = 2
  · subst h2
    refine lv_tableIn (tgt := 300) hx hb dL_law_33 (by decide) (by decide) rfl (by decide) ?_
    exact zl_case_2 htab C hi kk H locs hW hS
  by_cases h3 : j = 3
  · subst h3
    refine lv_tableIn (tgt := 349) hx hb dL_law_33 (by decide) (by decide) rfl (by decide) ?_
    exact zl_case_3 htab C hi kk H locs hW hS
  by_cases h4 : j = 4
  · subst h4
    refine lv_tableIn (tgt := 392) hx hb dL_law_33 (by decide) (by decide) rfl (by decide) ?_
    exact zl_case_4 htab C hi kk H locs hW hS
  by_cases h5 : j = 5
  · subst h5
    refine lv_tableIn (tgt := 425) hx hb dL_law_33 (by decide) (by decide) rfl (by decide) ?_
    exact zl_case_5 htab C hi kk H locs hW hS
  by_cases h6 : j = 6
  · subst h6
    refine lv_tableIn (tgt := 458) hx hb dL_law_33 (by decide) (by decide) rfl (by decide) ?_
    exact zl_case_6 htab C hi kk H locs hW hS
  by_cases h7 : j = 7
  · subst h7
    refine lv_tableIn (tgt := 481) hx hb dL_law_33 (by decide) (by decide) rfl (by decide) ?_
    exact zl_case_7 htab C hi kk H locs hW hS
  by_cases h8 : j = 8
  · subst h8
    refine lv_tableIn (tgt := 494) hx hb dL_law_33 (by decide) (by decide) rfl (by decide) ?_
    exact zl_case_8 htab C hi kk H locs hW hS
  by_cases h9 : j = 9
  · subst h9
    refine lv_tableIn (tgt := 517) hx hb dL_law_33 (by decide) (by decide) rfl (by decide) ?_
    exact zl_case_9 htab C hi kk H locs hW hS
  by_cases h10 : j = 10
  · subst h10
    refine lv_tableIn (tgt := 540) hx hb dL_law_33 (by decide) (by decide) rfl (by decide) ?_
    exact zl_case_10 htab C hi kk H locs hW hS
  by_cases h11 : j = 11
  · subst h11
    refine lv_tableIn (tgt := 563) hx hb dL_law_33 (by decide) (by decide) rfl (by decide) ?_
    exact zl_case_11 htab C hi kk H locs hW hS
  by_cases h12 : j = 12
  · subst h12
    refine lv_tableIn (tgt := 586) hx hb dL_law_33 (by decide) (by decide) rfl (by decide) ?_
    exact zl_case_12 htab C hi kk H locs hW hS
  by_cases h13 : j = 13
  · subst h13
    refine lv_tableIn (tgt := 609) hx hb dL_law_33 (by decide) (by decide) rfl (by decide) ?_
    exact zl_case_13 htab C hi kk H locs hW hS
  by_cases h14 : j = 14
  · subst h14
    refine lv_tableIn (tgt := 632) hx hb dL_law_33 (by decide) (by decide) rfl (by decide) ?_
    exact zl_case_14 htab C hi kk H locs hW hS
  by_cases h15 : j = 15
  · subst h15
    refine lv_tableIn (tgt := 655) hx hb dL_law_33 (by decide) (by decide) rfl (by decide) ?_
    exact zl_case_15 htab C hi kk H locs hW hS
  by_cases h16 : j = 16
  · subst h16
    refine lv_tableIn (tgt := 668) hx hb dL_law_33 (by decide) (by decide) rfl (by decide) ?_
    exact zl_case_16 htab C hi kk H locs hW hS
  by_cases h17 : j = 17
  · subst h17
    refine lv_tableIn (tgt := 691) hx hb dL_law_33 (by decide) (by decide) rfl (by decide) ?_
    exact zl_case_17 htab C hi kk H locs hW hS
  by_cases h18 : j = 18
  · subst h18
    refine lv_tableIn (tgt := 704) hx hb dL_law_33 (by decide) (by decide) rfl (by decide) ?_
    exact zl_case_18 htab C hi kk H locs hW hS
  by_cases h19 : j = 19
  · subst h19
    refine lv_tableIn (tgt := 727) hx hb dL_law_33 (by decide) (by decide) rfl (by decide) ?_
    exact zl_case_19 htab C hi kk H locs hW hS
  by_cases h20 : j = 20
  · subst h20
    refine lv_tableIn (tgt := 750) hx hb dL_law_33 (by decide) (by decide) rfl (by decide) ?_
    exact zl_case_20 htab C hi kk H locs hW hS
  by_cases h21 : j = 21
  · subst h21
    refine lv_tableIn (tgt := 773) hx hb dL_law_33 (by decide) (by decide) rfl (by decide) ?_
    exact zl_case_21 htab C hi kk H locs hW hS
  by_cases h22 : j = 22
  · subst h22
    refine lv_tableIn (tgt := 796) hx hb dL_law_33 (by decide) (by decide) rfl (by decide) ?_
    exact zl_case_22 htab C hi kk H locs hW hS
  by_cases h23 : j = 23
  · subst h23
    refine lv_tableIn (tgt := 829) hx hb dL_law_33 (by decide) (by decide) rfl (by decide) ?_
    exact zl_case_23 htab C hi kk H locs hW hS
  by_cases h24 : j = 24
  · subst h24
    refine lv_tableIn (tgt := 842) hx hb dL_law_33 (by decide) (by decide) rfl (by decide) ?_
    exact zl_case_24 htab C hi kk H locs hW hS
  by_cases h25 : j = 25
  · subst h25
    refine lv_tableIn (tgt := 875) hx hb dL_law_33 (by decide) (by decide) rfl (by decide) ?_
    exact zl_case_25 htab C hi kk H locs hW hS
  by_cases h26 : j = 26
  · subst h26
    refine lv_tableIn (tgt := 898) hx hb dL_law_33 (by decide) (by decide) rfl (by decide) ?_
    exact zl_case_26 htab C hi kk H locs hW hS
  by_cases h27 : j = 27
  · subst h27
    refine lv_tableIn (tgt := 931) hx hb dL_law_33 (by decide) (by decide) rfl (by decide) ?_
    exact zl_case_27 htab C hi kk H locs hW hS
  by_cases h28 : j = 28
  · subst h28
    refine lv_tableIn (tgt := 944) hx hb dL_law_33 (by decide) (by decide) rfl (by decide) ?_
    exact zl_case_28 htab C hi kk H locs hW hS
  by_cases h29 : j = 29
  · subst h29
    refine lv_tableIn (tgt := 977) hx hb dL_law_33 (by decide) (by decide) rfl (by decide) ?_
    exact zl_case_29 htab C hi kk H locs hW hS
  by_cases h30 : j = 30
  · subst h30
    refine lv_tableIn (tgt := 990) hx hb dL_law_33 (by decide) (by decide) rfl (by decide) ?_
    exact zl_case_30 htab C hi kk H locs hW hS
  by_cases h31 : j = 31
  · subst h31
    refine lv_tableIn (tgt := 1003) hx hb dL_law_33 (by decide) (by decide) rfl (by decide) ?_
    exact zl_case_31 htab C hi kk H locs hW hS
  by_cases h32 : j = 32
  · subst h32
    refine lv_tableIn (tgt := 1046) hx hb dL_law_33 (by decide) (by decide) rfl (by decide) ?_
    exact zl_case_32 htab C hi kk H locs hW hS
  by_cases h33 : j = 33
  · subst h33
    refine lv_tableIn (tgt := 1069) hx hb dL_law_33 (by decide) (by decide) rfl (by decide) ?_
    exact zl_case_33 htab C hi kk H locs hW hS
  by_cases h34 : j = 34
  · subst h34
    refine lv_tableIn (tgt := 1102) hx hb dL_law_33 (by decide) (by decide) rfl (by decide) ?_
    exact zl_case_34 htab C hi kk H locs hW hS
  by_cases h35 : j = 35
  · subst h35
    refine lv_tableIn (tgt := 1125) hx hb dL_law_33 (by decide) (by decide) rfl (by decide) ?_
    exact zl_case_35 htab C hi kk H locs hW hS
  by_cases h36 : j = 36
  · subst h36
    refine lv_tableIn (tgt := 1168) hx hb dL_law_33 (by decide) (by decide) rfl (by decide) ?_
    exact zl_case_36 htab C hi kk H locs hW hS
  by_cases h37 : j = 37
  · subst h37
    refine lv_tableIn (tgt := 1241) hx hb dL_law_33 (by decide) (by decide) rfl (by decide) ?_
    exact zl_case_37 htab C hi kk H locs hW hS
  by_cases h38 : j = 38
  · subst h38
    refine lv_tableIn (tgt := 1274) hx hb dL_law_33 (by decide) (by decide) rfl (by decide) ?_
    exact zl_case_38 htab C hi kk H locs hW hS
  refine lv_tableOut (tgt := 1337) hx hb dL_law_33 (Or.inr (by rw [nI_toInt (by omega)]; omega)) (by decide) ?_
  exact kk M hi H locs hW hS
set_option maxHeartbeats 4000000 in
theorem zl_loop (htab : pvTab) {p : Program} {e : Env} {s : State} {m : MethodId} {below : List Frame} {meth : Method} {c : Code} (l : Launch) {b L : Nat} {xs : Nat → Int32} {D : va_G} {y : Nat → ClassId} {ad : Nat → Nat} (hL : L ≤ 3072) (C0 : lw_At p s m meth c b L xs) (hts : ∀ w ∈ zT, w.before #[Value.ref b] s = true) (hK : zK D y s) (hE : zE y (zLA s) s s.heap) (had : pvadE y ad) : ∀ (n : Nat) (i : Int32) (ls : Array Slot) (M : pvM) (H : Heap) (locs : List Loc), (L : Int) - i.toInt < (n : Int) → 0 ≤ i.toInt → i.toInt ≤ (L : Int) → zIR M → lv_has ls 4 [(3, .int i), (2, .ref (ad 124)), (1, .ref (ad 0)), (0, .ref b)] → zPD D (zLA s) (mkW y ad M) H → va_S (zLA s) s.heap H locs → W p l e room_1 s m #[Value.ref b] below meth c H locs 1000 20000 (lw_Z below #[Value.ref b] s) (F0 m 18 ls []) := by
  obtain ⟨hx, hb, hr, hml, hown, hts0, hX, hbl, hlocks, hgv⟩ := id C0
  intro n
  induction n with
  | zero =>
    intro i ls M H locs h1 h2 h3
    omega
  | succ n ih =>
    intro i ls M H locs h1 h2 h3 hi hl hW hS
    refine lv_iload_n hx hb dL_law_18 rfl (lv_at hl 0 rfl) ?_
    refine lv_aload_n hx hb dL_law_19 rfl (lv_at hl 3 rfl) ?_
    refine va_slen hx hb hX hbl (Nat.not_le.mpr hbl) hS dL_law_20 ?_
    refine lv_bipush (v := 6) hx hb dL_law_21 (by decide) ?_
    refine lv_isub hx hb dL_law_23 ?_
    have e6 : (6 : Int32).toInt = 6 := by decide
    have e0 : (Int32.ofNat L).toInt = (L : Int) := nI_toInt (n := L) (by omega)
    have eL : (Int32.ofNat L - 6).toInt = (L : Int) - 6 := by rw [zsub _ _ (by omega) (by omega), e0, e6]
    refine lv_icmp_gt (tgt := 1343) hx hb dL_law_24 (by decide) (fun c1 => ?_) (fun c1 => ?_)
    · refine lv_iconst (v := 1) hx hb dL_law_1343 (by decide) ?_
      refine va_forget (fun q hq => hS.2.2 q hq) ?_
      refine W.widen (k := 600000) (n := 7302250) (Nat.le_of_ble_eq_true rfl) (Nat.le_of_ble_eq_true rfl) ?_
      exact lw_ret hx hb hr hlocks dL_law_1344
    · have h6 : i.toInt + 6 ≤ (L : Int) := by
        have := (not_congr (zi_lt _ _)).mp c1
        omega
      have C : zLc p s m c b L xs D y ad ls i := ⟨hx, hb, hml, hown, hts, hX, hbl, hK, hE, had, hl, h2, h6, hL⟩
      refine zl_disp htab C hi (fun M1 hi1 H1 locs1 hW1 hS1 => ?_) H locs hW hS
      have ei : (i + 6).toInt = i.toInt + 6 := by rw [zadd _ _ (by omega) (by omega), e6]
      refine lv_iinc (k := 0) (v := i + 6) (lv' := [(3, .int (i + 6)), (2, .ref (ad 124)), (1, .ref (ad 0)), (0, .ref b)]) hx hb dL_law_1337 hl rfl rfl (by decide) rfl (fun ls hl => ?_)
      refine lv_goto (tgt := 18) hx hb dL_law_1340 (by decide) ?_
      exact ih (i + 6) ls M1 H1 locs1 (by omega) (by omega) (by omega) hi1 hl hW1 hS1
