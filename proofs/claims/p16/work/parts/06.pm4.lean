/-! fields, arrays, what the machine itself holds -/
/-- what the rows of a field ask: who names it, by which number, of which class, which one, of which kind -/
def pvFL1 (own : String) (idx ci k kd : Nat) : Prop := ∃ (C : String) (T : u_T) (ty0 : Nat → FieldType), vwCl[ci]? = some (C, T, pvnf ci) ∧ (∀ w ∈ u_ws C T (pvnf ci), w ∈ zT) ∧ (∀ k, k < pvnf ci → parseFieldDescriptor (T k).2.2.1 = some (ty0 k)) ∧ (∀ a, a < pvnf ci → ∀ b, b < pvnf ci → a ≠ b → (T a).2.1 ≠ (T b).2.1) ∧ k < pvnf ci ∧ ci < 20 ∧ Cond.fieldLink own idx (T k).1 (T k).2.1 (T k).2.2.1 ∈ zT ∧ (kd = 2 ∨ (kd = 0 ∧ (T k).2.2.2 = false ∧ ty0 k = .int) ∨ (kd = 1 ∧ (T k).2.2.2 = false ∧ ty0 k = .boolean) ∨ (kd = 3 ∧ (T k).2.2.2 = false ∧ ∃ C2, ty0 k = .object C2))
section PV
variable {p : Program} {l : Launch} {e : Env} {R : Room} {s : State} {m : MethodId} {args : Array Value} {below : List Frame} {meth : Method} {c : Code} {Q : State → Prop}
variable {cc : ByteArray} {nL : Nat} {D : va_G} {y : Nat → ClassId} {ad : Nat → Nat} {A : Nat → Prop}
theorem pvce_o {q ci : Nat} {f : Nat → Int32} {g : Nat → Int64} (h : pvkl q = ci) (hc : ci < 20) : pvce y ad q f g = .inr (ci, pvfl ad ci q f) := by
  unfold pvce
  rw [h, if_neg (by omega), if_neg (by omega), if_neg (by omega), if_neg (by omega)]
theorem pvce_20 {q : Nat} {f : Nat → Int32} {g : Nat → Int64} (h : pvkl q = 20) : pvce y ad q f g = .inl (y 0, pvln q, .inl f) := by
  unfold pvce
  rw [if_pos h]
theorem pvce_21 {q : Nat} {f : Nat → Int32} {g : Nat → Int64} (h : pvkl q = 21) : pvce y ad q f g = .inl (y 1, pvln q, .inr (.inl g)) := by
  unfold pvce
  rw [if_neg (by omega), if_pos h]
theorem pvce_22 {q : Nat} {f : Nat → Int32} {g : Nat → Int64} (h : pvkl q = 22) : pvce y ad q f g = .inl (y 2, pvln q, .inl f) := by
  unfold pvce
  rw [if_neg (by omega), if_neg (by omega), if_pos h]
theorem pvce_r {q b : Nat} {f : Nat → Int32} {g : Nat → Int64} (h : pvkl q = b) (hb : 23 ≤ b) : pvce y ad q f g = .inl (y (b - 20), pvln q, .inr (.inr (.inr (.inr (fun i => if i < pvln q then some (ad (pvbs q + i)) else none))))) := by
  unfold pvce
  rw [h, if_neg (by omega), if_neg (by omega), if_neg (by omega), if_pos hb]
theorem pvW_at {M : pvM} {q n : Nat} {x : va_E} (h : pvkl q = n) (hn : n < 99) (hx : pvce y ad q (M.1 q) (M.2 q) = x) : (mkW y ad M)[q]? = some (ad q, x) := by
  rw [pvW_get (pvkl_lt h hn), hx]
theorem pvL_get (hx : p.tables.exec = Jvm.exec) (hb : c.code = cc) {a b cx d nx : Nat} {S : pvS} {own : String} (hts : ∀ w ∈ zT, w.before args s = true) (hown : s.vm.findClass own = some m.cls) (hK : zK D y s) (hF : pvFL1 own a b cx (d / 1000)) (hfk : pvfk b cx = (d / 1000, d % 1000))
    (hp : (pvs_get b cx d nx S).1) (hdg : decode cc S.1 = .ok (.getfield a, 3)) (hnx : nx = S.1 + 3)
    (k : pvG p l e R s m args below meth c Q nL D y ad A (pvs_get b cx d nx S).2) : pvG p l e R s m args below meth c Q nL D y ad A S := by
  obtain ⟨pc, lo, st, M⟩ := S
  intro H locs ls hW hS hl
  subst hnx
  obtain ⟨C, T, ty0, h1, h2, h3, h4, h5, h6, h7, h8⟩ := hF
  rcases st with _ | ⟨_ | _ | q, r⟩
  case cons.inr.inr =>
    have hq : pvkl q = b := hp
    refine zget hx hb hts h2 hown hK hW q (pvW_at hq (by omega) (pvce_o hq h6)) h1 cx h5 h7 (pvfl_get h5) hdg ?_
    have k := k H locs ls hW hS hl
    rw [hfk]
    exact k
  all_goals exact (hp : False).elim
theorem pvL_put (hx : p.tables.exec = Jvm.exec) (hb : c.code = cc) {a b cx d nx : Nat} {S : pvS} {own : String} (hts : ∀ w ∈ zT, w.before args s = true) (hown : s.vm.findClass own = some m.cls) (hK : zK D y s) (hF : pvFL1 own a b cx (d / 1000)) (hfk : pvfk b cx = (d / 1000, d % 1000))
    (hp : (pvs_put b cx d nx S).1) (hdg : decode cc S.1 = .ok (.putfield a, 3)) (hnx : nx = S.1 + 3)
    (k : pvG p l e R s m args below meth c Q nL D y ad A (pvs_put b cx d nx S).2) : pvG p l e R s m args below meth c Q nL D y ad A S := by
  obtain ⟨pc, lo, st, M⟩ := S
  intro H locs ls hW hS hl
  subst hnx
  obtain ⟨C, T, ty0, h1, h2, h3, h4, h5, h6, h7, h8⟩ := hF
  rcases st with _ | ⟨x | _ | z, _ | ⟨_ | _ | q, r⟩⟩
  case cons.inl.cons.inr.inr =>
    simp only [pvs_put] at hp k
    cases hd : Nat.beq d 0 with
    | true =>
      simp only [hd, cond_true] at hp k
      have hd0 : d = 0 := Nat.eq_of_beq_eq_true hd
      subst hd0
      have hq : pvkl q = b := hp
      have hty : (T cx).2.2.2 = false ∧ ty0 cx = .int := by
        rcases h8 with h | h | h | h
        · simp at h
        · exact h.2
        · simp at h
        · simp at h
      refine zput hx hb hts h2 ty0 h3 h4 hown hK hS hW q (pvW_at hq (by omega) (pvce_o hq h6)) h1 cx h5 h7 hty.1 (v := .int x) (by rw [hty.2]; rfl) (by rw [hty.2]; rfl) (by rw [pvfl_len]; exact h5) (ws' := mkW y ad (pvu M q cx x)) ?_ hdg (fun H1 locs1 hW1 hS1 => k H1 locs1 ls hW1 hS1 hl)
      refine pvW_set (fun z hz => pvr_o _ _ _ _ hz) ?_
      rw [pvce_o hq h6]
      dsimp only
      rw [pvr_q, pvfl_set h5]
      rw [hfk]
      simp [pvfv, pvt, upd]
    | false =>
      simp only [hd, cond_false] at hp k
      cases hd2 : Nat.beq d 1000 with
      | true =>
        simp only [hd2, cond_true] at hp k
        have hd0 : d = 1000 := Nat.eq_of_beq_eq_true hd2
        subst hd0
        have hq : pvkl q = b := hp.1
        have hty : (T cx).2.2.2 = false ∧ ty0 cx = .boolean := by
          rcases h8 with h | h | h | h
          · simp at h
          · simp at h
          · exact h.2
          · simp at h
        have hnar : narrow (ty0 cx) (.int x) = .int x := by
          rw [hty.2]
          rcases hp.2 with rfl | rfl <;> rfl
        have hfit : fits (ty0 cx) (.int x) = true := by
          rw [hty.2]
          rcases hp.2 with rfl | rfl <;> rfl
        refine zput hx hb hts h2 ty0 h3 h4 hown hK hS hW q (pvW_at hq (by omega) (pvce_o hq h6)) h1 cx h5 h7 hty.1 (v := .int x) hnar hfit (by rw [pvfl_len]; exact h5) (ws' := mkW y ad (pvu M q cx x)) ?_ hdg (fun H1 locs1 hW1 hS1 => k H1 locs1 ls hW1 hS1 hl)
        refine pvW_set (fun z hz => pvr_o _ _ _ _ hz) ?_
        rw [pvce_o hq h6]
        dsimp only
        rw [pvr_q, pvfl_set h5]
        rw [hfk]
        simp [pvfv, pvt, upd]
      | false => simp [hd2] at hp; exact (hp : False).elim
  case cons.inr.inr.cons.inr.inr =>
    simp only [pvs_put] at hp k
    cases hd : Nat.beq d 3000 with
    | true =>
      simp only [hd, cond_true] at hp k
      have hd0 : d = 3000 := Nat.eq_of_beq_eq_true hd
      subst hd0
      have hq : pvkl q = b := hp.1
      have hz : z < pvNP := pvkl_lt hp.2 (by omega)
      have hty : (T cx).2.2.2 = false ∧ ∃ C2, ty0 cx = .object C2 := by
        rcases h8 with h | h | h | h
        · simp at h
        · simp at h
        · simp at h
        · exact h.2
      obtain ⟨hfin, C2, hty⟩ := hty
      refine zput hx hb hts h2 ty0 h3 h4 hown hK hS hW q (pvW_at hq (by omega) (pvce_o hq h6)) h1 cx h5 h7 hfin (v := .ref (ad z)) (by rw [hty]; rfl) (by rw [hty]; rfl) (by rw [pvfl_len]; exact h5) (ws' := mkW y ad (pvu M q cx (nI z))) ?_ hdg (fun H1 locs1 hW1 hS1 => k H1 locs1 ls hW1 hS1 hl)
      refine pvW_set (fun z hz => pvr_o _ _ _ _ hz) ?_
      rw [pvce_o hq h6]
      dsimp only
      rw [pvr_q, pvfl_set h5]
      rw [hfk]
      have hz2 : pvNP < 2 ^ 31 := by decide
      simp [pvfv, pvt, upd, pvhp, nI_clamp (show z < 2 ^ 31 by omega)]
    | false => simp [hd] at hp; exact (hp : False).elim
  all_goals exact (hp : False).elim
theorem pvL_ald (hx : p.tables.exec = Jvm.exec) (hb : c.code = cc) {nx : Nat} {S : pvS} (hK : zK D y s) (hp : (pvs_ald nx S).1) (hdg : decode cc S.1 = .ok (.iaload, 1)) (hnx : nx = S.1 + 1)
    (k : pvG p l e R s m args below meth c Q nL D y ad A (pvs_ald nx S).2) : pvG p l e R s m args below meth c Q nL D y ad A S := by
  obtain ⟨pc, lo, st, M⟩ := S
  intro H locs ls hW hS hl
  subst hnx
  rcases st with _ | ⟨i | _ | _, _ | ⟨_ | _ | q, r⟩⟩
  case cons.inl.cons.inr.inr => exact ziald hx hb hK hW q (pvW_at hp.1 (by omega) (pvce_20 hp.1)) hp.2 rfl hdg (k H locs ls hW hS hl)
  all_goals exact (hp : False).elim
theorem pvL_zld (hx : p.tables.exec = Jvm.exec) (hb : c.code = cc) {nx : Nat} {S : pvS} (hK : zK D y s) (hp : (pvs_zld nx S).1) (hdg : decode cc S.1 = .ok (.baload, 1)) (hnx : nx = S.1 + 1)
    (k : pvG p l e R s m args below meth c Q nL D y ad A (pvs_zld nx S).2) : pvG p l e R s m args below meth c Q nL D y ad A S := by
  obtain ⟨pc, lo, st, M⟩ := S
  intro H locs ls hW hS hl
  subst hnx
  rcases st with _ | ⟨i | _ | _, _ | ⟨_ | _ | q, r⟩⟩
  case cons.inl.cons.inr.inr => exact zzald hx hb hK hW q (pvW_at hp.1 (by omega) (pvce_22 hp.1)) hp.2 rfl hdg (k H locs ls hW hS hl)
  all_goals exact (hp : False).elim
theorem pvL_lld (hx : p.tables.exec = Jvm.exec) (hb : c.code = cc) {nx : Nat} {S : pvS} (hK : zK D y s) (hp : (pvs_lld nx S).1) (hdg : decode cc S.1 = .ok (.laload, 1)) (hnx : nx = S.1 + 1)
    (k : pvG p l e R s m args below meth c Q nL D y ad A (pvs_lld nx S).2) : pvG p l e R s m args below meth c Q nL D y ad A S := by
  obtain ⟨pc, lo, st, M⟩ := S
  intro H locs ls hW hS hl
  subst hnx
  rcases st with _ | ⟨i | _ | _, _ | ⟨_ | _ | q, r⟩⟩
  case cons.inl.cons.inr.inr => exact zlald hx hb hK hW q (pvW_at hp.1 (by omega) (pvce_21 hp.1)) hp.2 rfl hdg (k H locs ls hW hS hl)
  all_goals exact (hp : False).elim
theorem pvL_rld (hx : p.tables.exec = Jvm.exec) (hb : c.code = cc) {b nx : Nat} {S : pvS} (hK : zK D y s) (hp : (pvs_rld b nx S).1) (hdg : decode cc S.1 = .ok (.aaload, 1)) (hnx : nx = S.1 + 1)
    (k : pvG p l e R s m args below meth c Q nL D y ad A (pvs_rld b nx S).2) : pvG p l e R s m args below meth c Q nL D y ad A S := by
  obtain ⟨pc, lo, st, M⟩ := S
  intro H locs ls hW hS hl
  subst hnx
  rcases st with _ | ⟨i | _ | _, _ | ⟨_ | _ | q, r⟩⟩
  case cons.inl.cons.inr.inr =>
    simp only [pvs_rld] at hp k
    cases hbb : (Nat.ble 23 b && Nat.ble b 25) with
    | false => simp [hbb] at hp; exact (hp : False).elim
    | true =>
      simp only [hbb, cond_true] at hp k
      simp only [Bool.and_eq_true, Nat.ble_eq] at hbb
      obtain ⟨hq, hi⟩ := hp
      have hlt := (vp_in_iff.mp hi)
      have hi2 : i.toNatClampNeg < pvln q := Nat.not_le.mp fun u => hi (Or.inr u)
      have hv : va_rf ((fun j => if j < pvln q then some (ad (pvbs q + j)) else none) i.toNatClampNeg) = Value.ref (ad (pvbs q + i.toNatClampNeg)) := by
        show va_rf (if i.toNatClampNeg < pvln q then _ else _) = _
        rw [if_pos hi2]
        rfl
      have hcase : b = 23 ∨ b = 24 ∨ b = 25 := by omega
      rcases hcase with rfl | rfl | rfl
      · exact zaald hx hb hK hW q 3 (pvW_at hq (by omega) (pvce_r hq (by omega))) rfl hi hv hdg (k H locs ls hW hS hl)
      · exact zaald hx hb hK hW q 4 (pvW_at hq (by omega) (pvce_r hq (by omega))) rfl hi hv hdg (k H locs ls hW hS hl)
      · exact zaald hx hb hK hW q 5 (pvW_at hq (by omega) (pvce_r hq (by omega))) rfl hi hv hdg (k H locs ls hW hS hl)
  all_goals exact (hp : False).elim
theorem pvL_ast (hx : p.tables.exec = Jvm.exec) (hb : c.code = cc) {nx : Nat} {S : pvS} (hK : zK D y s) (hp : (pvs_ast nx S).1) (hdg : decode cc S.1 = .ok (.iastore, 1)) (hnx : nx = S.1 + 1)
    (k : pvG p l e R s m args below meth c Q nL D y ad A (pvs_ast nx S).2) : pvG p l e R s m args below meth c Q nL D y ad A S := by
  obtain ⟨pc, lo, st, M⟩ := S
  intro H locs ls hW hS hl
  subst hnx
  rcases st with _ | ⟨x | _ | _, _ | ⟨i | _ | _, _ | ⟨_ | _ | q, r⟩⟩⟩
  case cons.inl.cons.inl.cons.inr.inr =>
    refine ziast hx hb hK hS hW q (pvW_at hp.1 (by omega) (pvce_20 hp.1)) hp.2 rfl (ws' := mkW y ad (pvu M q i.toNatClampNeg x)) ?_ hdg (fun H1 locs1 hW1 hS1 => k H1 locs1 ls hW1 hS1 hl)
    refine pvW_set (fun z hz => pvr_o _ _ _ _ hz) ?_
    rw [pvce_20 hp.1]
    dsimp only
    rw [pvr_q]
  all_goals exact (hp : False).elim
theorem pvL_zst (hx : p.tables.exec = Jvm.exec) (hb : c.code = cc) {nx : Nat} {S : pvS} (hK : zK D y s) (hp : (pvs_zst nx S).1) (hdg : decode cc S.1 = .ok (.bastore, 1)) (hnx : nx = S.1 + 1)
    (k : pvG p l e R s m args below meth c Q nL D y ad A (pvs_zst nx S).2) : pvG p l e R s m args below meth c Q nL D y ad A S := by
  obtain ⟨pc, lo, st, M⟩ := S
  intro H locs ls hW hS hl
  subst hnx
  rcases st with _ | ⟨x | _ | _, _ | ⟨i | _ | _, _ | ⟨_ | _ | q, r⟩⟩⟩
  case cons.inl.cons.inl.cons.inr.inr =>
    refine zzast hx hb hK hS hW q (pvW_at hp.1 (by omega) (pvce_22 hp.1)) hp.2 rfl (ws' := mkW y ad (pvu M q i.toNatClampNeg (vp_nar .boolean x))) ?_ hdg (fun H1 locs1 hW1 hS1 => k H1 locs1 ls hW1 hS1 hl)
    refine pvW_set (fun z hz => pvr_o _ _ _ _ hz) ?_
    rw [pvce_22 hp.1]
    dsimp only
    rw [pvr_q]
  all_goals exact (hp : False).elim
theorem pvL_lst (hx : p.tables.exec = Jvm.exec) (hb : c.code = cc) {nx : Nat} {S : pvS} (hK : zK D y s) (hp : (pvs_lst nx S).1) (hdg : decode cc S.1 = .ok (.lastore, 1)) (hnx : nx = S.1 + 1)
    (k : pvG p l e R s m args below meth c Q nL D y ad A (pvs_lst nx S).2) : pvG p l e R s m args below meth c Q nL D y ad A S := by
  obtain ⟨pc, lo, st, M⟩ := S
  intro H locs ls hW hS hl
  subst hnx
  rcases st with _ | ⟨_ | x | _, _ | ⟨i | _ | _, _ | ⟨_ | _ | q, r⟩⟩⟩
  case cons.inr.inl.cons.inl.cons.inr.inr =>
    refine zlast hx hb hK hS hW q (pvW_at hp.1 (by omega) (pvce_21 hp.1)) hp.2 rfl (ws' := mkW y ad (pvw M q i.toNatClampNeg x)) ?_ hdg (fun H1 locs1 hW1 hS1 => k H1 locs1 ls hW1 hS1 hl)
    refine pvW_set (fun z hz => pvrL_o _ _ _ _ hz) ?_
    rw [pvce_21 hp.1]
    dsimp only
    rw [pvrL_q]
  all_goals exact (hp : False).elim
theorem pvL_len (hx : p.tables.exec = Jvm.exec) (hb : c.code = cc) {b nx : Nat} {S : pvS} (hK : zK D y s) (hp : (pvs_len b nx S).1) (hdg : decode cc S.1 = .ok (.arraylength, 1)) (hnx : nx = S.1 + 1)
    (k : pvG p l e R s m args below meth c Q nL D y ad A (pvs_len b nx S).2) : pvG p l e R s m args below meth c Q nL D y ad A S := by
  obtain ⟨pc, lo, st, M⟩ := S
  intro H locs ls hW hS hl
  subst hnx
  rcases st with _ | ⟨_ | _ | q, r⟩
  case cons.inr.inr =>
    simp only [pvs_len] at hp k
    cases hbb : (Nat.ble 20 b && Nat.ble b 25) with
    | false => simp [hbb] at hp; exact (hp : False).elim
    | true =>
      simp only [hbb, cond_true] at hp k
      simp only [Bool.and_eq_true, Nat.ble_eq] at hbb
      have hq : pvkl q = b := hp
      have hcase : b = 20 ∨ b = 21 ∨ b = 22 ∨ b = 23 ∨ b = 24 ∨ b = 25 := by omega
      rcases hcase with rfl | rfl | rfl | rfl | rfl | rfl
      · exact zalen hx hb hK hW q 0 (pvW_at hq (by omega) (pvce_20 hq)) rfl rfl hdg (k H locs ls hW hS hl)
      · exact zalen hx hb hK hW q 1 (pvW_at hq (by omega) (pvce_21 hq)) rfl rfl hdg (k H locs ls hW hS hl)
      · exact zalen hx hb hK hW q 2 (pvW_at hq (by omega) (pvce_22 hq)) rfl rfl hdg (k H locs ls hW hS hl)
      · exact zalen hx hb hK hW q 3 (pvW_at hq (by omega) (pvce_r hq (by omega))) rfl rfl hdg (k H locs ls hW hS hl)
      · exact zalen hx hb hK hW q 4 (pvW_at hq (by omega) (pvce_r hq (by omega))) rfl rfl hdg (k H locs ls hW hS hl)
      · exact zalen hx hb hK hW q 5 (pvW_at hq (by omega) (pvce_r hq (by omega))) rfl rfl hdg (k H locs ls hW hS hl)
  all_goals exact (hp : False).elim
end PV
