/-! the rows of the machine give each step -/
def pvi_load (a b : Nat) : Instr × Nat := match b with
  | 0 => (.iload_n (Fin.ofNat 4 a), 1)
  | 1 => (.iload a, 2)
  | 2 => (.aload_n (Fin.ofNat 4 a), 1)
  | 3 => (.aload a, 2)
  | 4 => (.lload_n (Fin.ofNat 4 a), 1)
  | _ => (.lload a, 2)
def pvi_store (a b : Nat) : Instr × Nat := match b with
  | 0 => (.istore_n (Fin.ofNat 4 a), 1)
  | 1 => (.istore a, 2)
  | 2 => (.astore_n (Fin.ofNat 4 a), 1)
  | 3 => (.astore a, 2)
  | 4 => (.lstore_n (Fin.ofNat 4 a), 1)
  | _ => (.lstore a, 2)
def pvi_const (a b : Nat) (v : Int32) : Instr × Nat := match b with
  | 0 => (.iconst v.toInt, 1)
  | 1 => (.bipush v.toInt, 2)
  | 2 => (.sipush v.toInt, 3)
  | 3 => (.ldc a, 2)
  | _ => (.ldc_w a, 3)
def pvi_lconst (a b : Nat) : Instr × Nat := match b with
  | 0 => (.lconst 0, 1)
  | 1 => (.lconst 1, 1)
  | _ => (.ldc2_w a, 3)
def pvi_bin (b : Nat) : Instr × Nat := match b with
  | 0 => (.iadd, 1)
  | 1 => (.isub, 1)
  | 2 => (.imul, 1)
  | 3 => (.iand, 1)
  | 4 => (.ior, 1)
  | 5 => (.ixor, 1)
  | 6 => (.ishl, 1)
  | 7 => (.ishr, 1)
  | _ => (.iushr, 1)
def pvi_un (b : Nat) : Instr × Nat := match b with
  | 0 => (.ineg, 1)
  | 1 => (.i2b, 1)
  | 2 => (.i2s, 1)
  | _ => (.i2c, 1)
def pvi_div (b : Nat) : Instr × Nat := match b with
  | 0 => (.idiv, 1)
  | _ => (.irem, 1)
theorem pvf4 {a : Nat} (h : a < 4) : ((Fin.ofNat 4 a : Fin 4) : Nat) = a := Nat.mod_eq_of_lt h
section PV
variable {p : Program} {l : Launch} {e : Env} {R : Room} {s : State} {m : MethodId} {args : Array Value} {below : List Frame} {meth : Method} {c : Code} {Q : State → Prop}
variable {cc : ByteArray} {nL : Nat} {D : va_G} {y : Nat → ClassId} {ad : Nat → Nat} {A : Nat → Prop}
/-- what is wanted at a state -/
def pvG (p : Program) (l : Launch) (e : Env) (R : Room) (s : State) (m : MethodId) (args : Array Value) (below : List Frame) (meth : Method) (c : Code) (Q : State → Prop) (nL : Nat) (D : va_G) (y : Nat → ClassId) (ad : Nat → Nat) (A : Nat → Prop) (S : pvS) : Prop :=
  ∀ (H : Heap) (locs : List Loc) (ls : Array Slot), zPD D A (mkW y ad S.2.2.2) H → va_S A s.heap H locs → lv_has ls nL (pvlv ad 0 S.2.1) → W p l e R s m args below meth c H locs 0 0 Q (F0 m S.1 ls (S.2.2.1.map (pvt ad)))
theorem pvlv_at {ls : Array Slot} {lo : List (Option pvV)} {a : Nat} {v : pvV} (hl : lv_has ls nL (pvlv ad 0 lo)) (h : lo.getD a none = some v) : ls[a]? = some (.val (pvt ad v)) := by
  have h' : lo[a]? = some (some v) := by
    rw [List.getD_eq_getElem?_getD] at h
    cases e : lo[a]? with
    | none => rw [e] at h; cases h
    | some w => rw [e] at h; exact congrArg some h
  have h2 := hl.2.2 _ (pvlv_in (ad := ad) lo 0 a v h')
  rwa [Nat.zero_add] at h2
theorem pvlv_lt {ls : Array Slot} {lo : List (Option pvV)} {a : Nat} (hok : pvok lo a = true) : a < lo.length := by
  unfold pvok at hok
  simp only [Bool.and_eq_true] at hok
  have := hok.1
  simpa [Nat.blt_eq] using this
theorem pvL_load (hx : p.tables.exec = Jvm.exec) (hb : c.code = cc) {a b nx : Nat} {S : pvS} (hp : (pvs_load a b nx S).1) (hdg : decode cc S.1 = .ok (pvi_load a b)) (hnx : nx = S.1 + (pvi_load a b).2) (ha : a < 4 ∨ b % 2 = 1)
    (k : pvG p l e R s m args below meth c Q nL D y ad A (pvs_load a b nx S).2) : pvG p l e R s m args below meth c Q nL D y ad A S := by
  obtain ⟨pc, lo, st, M⟩ := S
  intro H locs ls hW hS hl
  subst hnx
  simp only [pvs_load] at hp k
  cases hg : lo.getD a none with
  | none => rw [hg] at hp; exact hp.elim
  | some v =>
    rw [hg] at hp k
    have hv := pvlv_at hl hg
    rcases v with x | x | q
    · match b, hp, k, hdg, ha with
      | 0, hp, k, hdg, ha => exact lv_iload_n hx hb hdg (pvf4 (by omega)) hv (k H locs ls hW hS hl)
      | 1, hp, k, hdg, ha => exact lv_iload hx hb hdg hv (k H locs ls hW hS hl)
      | b + 2, hp, _, _, _ => exact (hp : False).elim
    · match b, hp, k, hdg, ha with
      | 0, hp, _, _, _ => exact (hp : False).elim
      | 1, hp, _, _, _ => exact (hp : False).elim
      | 2, hp, _, _, _ => exact (hp : False).elim
      | 3, hp, _, _, _ => exact (hp : False).elim
      | 4, hp, k, hdg, ha => exact lv_lload_n hx hb hdg (pvf4 (by omega)) hv (k H locs ls hW hS hl)
      | b + 5, hp, k, hdg, ha => exact lv_lload hx hb hdg hv (k H locs ls hW hS hl)
    · match b, hp, k, hdg, ha with
      | 0, hp, _, _, _ => exact (hp : False).elim
      | 1, hp, _, _, _ => exact (hp : False).elim
      | 2, hp, k, hdg, ha => exact lv_aload_n hx hb hdg (pvf4 (by omega)) hv (k H locs ls hW hS hl)
      | 3, hp, k, hdg, ha => exact lv_aload hx hb hdg hv (k H locs ls hW hS hl)
      | b + 4, hp, _, _, _ => exact (hp : False).elim
theorem pvL_store (hx : p.tables.exec = Jvm.exec) (hb : c.code = cc) {a b nx : Nat} {S : pvS} (hn1 : a < nL) (hn2 : b < 4 ∨ a + 1 < nL) (hp : (pvs_store a b nx S).1) (hdg : decode cc S.1 = .ok (pvi_store a b)) (hnx : nx = S.1 + (pvi_store a b).2) (ha : a < 4 ∨ b % 2 = 1)
    (k : pvG p l e R s m args below meth c Q nL D y ad A (pvs_store a b nx S).2) : pvG p l e R s m args below meth c Q nL D y ad A S := by
  obtain ⟨pc, lo, st, M⟩ := S
  intro H locs ls hW hS hl
  subst hnx
  simp only [pvs_store] at hp k
  rcases st with _ | ⟨v, r⟩
  · exact (hp : False).elim
  rcases v with x | x | q
  · cases hok : pvok lo a with
    | false => simp [hok] at hp; exact (hp : False).elim
    | true =>
      have hlt := pvlv_lt (ls := ls) hok
      match b, hp, k, hdg, ha with
      | 0, hp, k, hdg, ha =>
        simp only [hok] at k
        exact lv_istore_n hx hb hdg (pvf4 (by omega)) hl (by omega) rfl (fun ls' hl' => k H locs ls' hW hS (pvst1 (x := pvI x) hok hl'))
      | 1, hp, k, hdg, ha =>
        simp only [hok] at k
        exact lv_istore hx hb hdg hl (by omega) rfl (fun ls' hl' => k H locs ls' hW hS (pvst1 (x := pvI x) hok hl'))
      | b + 2, hp, _, _, _ => exact (hp : False).elim
  · cases hok : pvok lo a with
    | false => simp [hok] at hp; exact (hp : False).elim
    | true =>
      cases hl2 : Nat.blt (a + 1) lo.length with
      | false => simp [hl2] at hp; exact (hp : False).elim
      | true =>
        have hlt : a + 1 < lo.length := by simpa [Nat.blt_eq] using hl2
        match b, hp, k, hdg, ha with
        | 0, hp, _, _, _ => exact (hp : False).elim
        | 1, hp, _, _, _ => exact (hp : False).elim
        | 2, hp, _, _, _ => exact (hp : False).elim
        | 3, hp, _, _, _ => exact (hp : False).elim
        | 4, hp, k, hdg, ha =>
          simp only [hok, hl2] at k
          exact lv_lstore_n hx hb hdg (pvf4 (by omega)) hl (by omega) rfl (fun ls' hl' => k H locs ls' hW hS (pvst2 (x := pvJ x) hok hl'))
        | b + 5, hp, k, hdg, ha =>
          have e5 : Nat.ble 4 (b + 5) = true := by simp [Nat.ble_eq]
          simp only [hok, hl2, e5] at k
          exact lv_lstore hx hb hdg hl (by omega) rfl (fun ls' hl' => k H locs ls' hW hS (pvst2 (x := pvJ x) hok hl'))
  · cases hok : pvok lo a with
    | false => simp [hok] at hp; exact (hp : False).elim
    | true =>
      have hlt := pvlv_lt (ls := ls) hok
      match b, hp, k, hdg, ha with
      | 0, hp, _, _, _ => exact (hp : False).elim
      | 1, hp, _, _, _ => exact (hp : False).elim
      | 2, hp, k, hdg, ha =>
        simp only [hok] at k
        exact lv_astore_n hx hb hdg (pvf4 (by omega)) hl (by omega) rfl (fun ls' hl' => k H locs ls' hW hS (pvst1 (x := pvR q) hok hl'))
      | 3, hp, k, hdg, ha =>
        simp only [hok] at k
        exact lv_astore hx hb hdg hl (by omega) rfl (fun ls' hl' => k H locs ls' hW hS (pvst1 (x := pvR q) hok hl'))
      | b + 4, hp, _, _, _ => exact (hp : False).elim
theorem pvL_const (hx : p.tables.exec = Jvm.exec) (hb : c.code = cc) {a b nx : Nat} {v : Int32} {S : pvS} {own : String} (hdg : decode cc S.1 = .ok (pvi_const a b v)) (hnx : nx = S.1 + (pvi_const a b v).2)
    (hown : s.vm.findClass own = some m.cls) (hv : (b = 0) ∨ (b = 1 ∧ (Int8.ofInt v.toInt).toInt32 = v) ∨ (b = 2 ∧ (Int16.ofInt v.toInt).toInt32 = v) ∨ (3 ≤ b ∧ (Jvm.Cond.constant own a v).before args s = true))
    (k : pvG p l e R s m args below meth c Q nL D y ad A (pvs_const v nx S).2) : pvG p l e R s m args below meth c Q nL D y ad A S := by
  obtain ⟨pc, lo, st, M⟩ := S
  intro H locs ls hW hS hl
  subst hnx
  have k := k H locs ls hW hS hl
  rcases hv with rfl | ⟨rfl, hv⟩ | ⟨rfl, hv⟩ | ⟨h3, hv⟩
  · exact lv_iconst hx hb hdg (Int32.ofInt_toInt _) k
  · exact lv_bipush hx hb hdg hv k
  · exact lv_sipush hx hb hdg hv k
  · match b, hdg, k, h3 with
    | 3, hdg, k, _ => exact lv_ldc hx hb hown hv hdg k
    | b + 4, hdg, k, _ => exact lv_ldcw hx hb hown hv hdg k
theorem pvL_lconst (hx : p.tables.exec = Jvm.exec) (hb : c.code = cc) {a b nx : Nat} {S : pvS} {own : String} (hdg : decode cc S.1 = .ok (pvi_lconst a b)) (hnx : nx = S.1 + (pvi_lconst a b).2)
    (hown : s.vm.findClass own = some m.cls) (hv : b < 2 ∨ (Jvm.Cond.constantLong own a (-9223372036854775808)).before args s = true)
    (k : pvG p l e R s m args below meth c Q nL D y ad A (pvs_lconst b nx S).2) : pvG p l e R s m args below meth c Q nL D y ad A S := by
  obtain ⟨pc, lo, st, M⟩ := S
  intro H locs ls hW hS hl
  subst hnx
  have k := k H locs ls hW hS hl
  match b, hdg, k, hv with
  | 0, hdg, k, _ => exact lv_lconst hx hb hdg rfl k
  | 1, hdg, k, _ => exact lv_lconst hx hb hdg rfl k
  | b + 2, hdg, k, hv => exact lv_ldc2 hx hb hown (hv.resolve_left (by omega)) hdg k
theorem pvL_bin (hx : p.tables.exec = Jvm.exec) (hb : c.code = cc) {b nx : Nat} {S : pvS} (hp : (pvs_bin b nx S).1) (hdg : decode cc S.1 = .ok (pvi_bin b)) (hnx : nx = S.1 + 1)
    (k : pvG p l e R s m args below meth c Q nL D y ad A (pvs_bin b nx S).2) : pvG p l e R s m args below meth c Q nL D y ad A S := by
  obtain ⟨pc, lo, st, M⟩ := S
  intro H locs ls hW hS hl
  subst hnx
  rcases st with _ | ⟨_ | _ | _, _ | ⟨_ | _ | _, r⟩⟩
  case cons.inl.cons.inl y x =>
    have k := k H locs ls hW hS hl
    match b, hdg, k with
    | 0, hdg, k => exact lv_iadd hx hb hdg k
    | 1, hdg, k => exact lv_isub hx hb hdg k
    | 2, hdg, k => exact lv_imul hx hb hdg k
    | 3, hdg, k => exact lv_iand hx hb hdg k
    | 4, hdg, k => exact lv_ior hx hb hdg k
    | 5, hdg, k => exact lv_ixor hx hb hdg k
    | 6, hdg, k => exact lv_ishl hx hb hdg k
    | 7, hdg, k => exact lv_ishr hx hb hdg k
    | b + 8, hdg, k => exact lv_iushr hx hb hdg rfl k
  all_goals exact (hp : False).elim
theorem pvL_div (hx : p.tables.exec = Jvm.exec) (hb : c.code = cc) {b nx : Nat} {S : pvS} (hp : (pvs_div b nx S).1) (hdg : decode cc S.1 = .ok (pvi_div b)) (hnx : nx = S.1 + 1)
    (k : pvG p l e R s m args below meth c Q nL D y ad A (pvs_div b nx S).2) : pvG p l e R s m args below meth c Q nL D y ad A S := by
  obtain ⟨pc, lo, st, M⟩ := S
  intro H locs ls hW hS hl
  subst hnx
  rcases st with _ | ⟨_ | _ | _, _ | ⟨_ | _ | _, r⟩⟩
  case cons.inl.cons.inl y x =>
    have k := k H locs ls hW hS hl
    match b, hdg, k with
    | 0, hdg, k => exact lv_idiv hx hb hdg hp k
    | b + 1, hdg, k => exact lv_irem hx hb hdg hp k
  all_goals exact (hp : False).elim
theorem pvL_un (hx : p.tables.exec = Jvm.exec) (hb : c.code = cc) {b nx : Nat} {S : pvS} (hp : (pvs_un b nx S).1) (hdg : decode cc S.1 = .ok (pvi_un b)) (hnx : nx = S.1 + 1)
    (k : pvG p l e R s m args below meth c Q nL D y ad A (pvs_un b nx S).2) : pvG p l e R s m args below meth c Q nL D y ad A S := by
  obtain ⟨pc, lo, st, M⟩ := S
  intro H locs ls hW hS hl
  subst hnx
  rcases st with _ | ⟨_ | _ | _, r⟩
  case cons.inl x =>
    have k := k H locs ls hW hS hl
    match b, hdg, k with
    | 0, hdg, k => exact lv_ineg hx hb hdg k
    | 1, hdg, k => exact lv_i2b hx hb hdg rfl k
    | 2, hdg, k => exact lv_i2s hx hb hdg rfl k
    | b + 3, hdg, k => exact lv_i2c hx hb hdg rfl k
  all_goals exact (hp : False).elim
theorem pvL_i2l (hx : p.tables.exec = Jvm.exec) (hb : c.code = cc) {nx : Nat} {S : pvS} (hp : (pvs_i2l nx S).1) (hdg : decode cc S.1 = .ok (.i2l, 1)) (hnx : nx = S.1 + 1)
    (k : pvG p l e R s m args below meth c Q nL D y ad A (pvs_i2l nx S).2) : pvG p l e R s m args below meth c Q nL D y ad A S := by
  obtain ⟨pc, lo, st, M⟩ := S
  intro H locs ls hW hS hl
  subst hnx
  rcases st with _ | ⟨_ | _ | _, r⟩
  case cons.inl x => exact lv_i2l hx hb hdg rfl (k H locs ls hW hS hl)
  all_goals exact (hp : False).elim
theorem pvL_l2i (hx : p.tables.exec = Jvm.exec) (hb : c.code = cc) {nx : Nat} {S : pvS} (hp : (pvs_l2i nx S).1) (hdg : decode cc S.1 = .ok (.l2i, 1)) (hnx : nx = S.1 + 1)
    (k : pvG p l e R s m args below meth c Q nL D y ad A (pvs_l2i nx S).2) : pvG p l e R s m args below meth c Q nL D y ad A S := by
  obtain ⟨pc, lo, st, M⟩ := S
  intro H locs ls hW hS hl
  subst hnx
  rcases st with _ | ⟨_ | _ | _, r⟩
  case cons.inr.inl x => exact lv_l2i hx hb hdg rfl (k H locs ls hW hS hl)
  all_goals exact (hp : False).elim
theorem pvL_lcmp (hx : p.tables.exec = Jvm.exec) (hb : c.code = cc) {nx : Nat} {S : pvS} (hp : (pvs_lcmp nx S).1) (hdg : decode cc S.1 = .ok (.lcmp, 1)) (hnx : nx = S.1 + 1)
    (k : pvG p l e R s m args below meth c Q nL D y ad A (pvs_lcmp nx S).2) : pvG p l e R s m args below meth c Q nL D y ad A S := by
  obtain ⟨pc, lo, st, M⟩ := S
  intro H locs ls hW hS hl
  subst hnx
  rcases st with _ | ⟨_ | _ | _, _ | ⟨_ | _ | _, r⟩⟩
  case cons.inr.inl.cons.inr.inl y x => exact W.lcmp hx hb hdg (k H locs ls hW hS hl)
  all_goals exact (hp : False).elim
theorem pvL_dup (hx : p.tables.exec = Jvm.exec) (hb : c.code = cc) {nx : Nat} {S : pvS} (hp : (pvs_dup nx S).1) (hdg : decode cc S.1 = .ok (.dup, 1)) (hnx : nx = S.1 + 1)
    (k : pvG p l e R s m args below meth c Q nL D y ad A (pvs_dup nx S).2) : pvG p l e R s m args below meth c Q nL D y ad A S := by
  obtain ⟨pc, lo, st, M⟩ := S
  intro H locs ls hW hS hl
  subst hnx
  rcases st with _ | ⟨v, r⟩
  · exact (hp : False).elim
  simp only [pvs_dup] at hp k
  cases h : pvlg v with
  | true => simp [h] at hp; exact (hp : False).elim
  | false =>
    simp only [h] at k
    exact lv_dup hx hb hdg (pvcat h) (k H locs ls hW hS hl)
theorem pvL_pop (hx : p.tables.exec = Jvm.exec) (hb : c.code = cc) {nx : Nat} {S : pvS} (hp : (pvs_pop nx S).1) (hdg : decode cc S.1 = .ok (.pop, 1)) (hnx : nx = S.1 + 1)
    (k : pvG p l e R s m args below meth c Q nL D y ad A (pvs_pop nx S).2) : pvG p l e R s m args below meth c Q nL D y ad A S := by
  obtain ⟨pc, lo, st, M⟩ := S
  intro H locs ls hW hS hl
  subst hnx
  rcases st with _ | ⟨v, r⟩
  · exact (hp : False).elim
  simp only [pvs_pop] at hp k
  cases h : pvlg v with
  | true => simp [h] at hp; exact (hp : False).elim
  | false =>
    simp only [h] at k
    exact lv_pop hx hb hdg (pvcat h) (k H locs ls hW hS hl)
theorem pvL_dup_x1 (hx : p.tables.exec = Jvm.exec) (hb : c.code = cc) {nx : Nat} {S : pvS} (hp : (pvs_dup_x1 nx S).1) (hdg : decode cc S.1 = .ok (.dup_x1, 1)) (hnx : nx = S.1 + 1)
    (k : pvG p l e R s m args below meth c Q nL D y ad A (pvs_dup_x1 nx S).2) : pvG p l e R s m args below meth c Q nL D y ad A S := by
  obtain ⟨pc, lo, st, M⟩ := S
  intro H locs ls hW hS hl
  subst hnx
  rcases st with _ | ⟨v, _ | ⟨w, r⟩⟩
  · exact (hp : False).elim
  · exact (hp : False).elim
  simp only [pvs_dup_x1] at hp k
  cases h : pvlg v with
  | true => simp [h] at hp; exact (hp : False).elim
  | false =>
    cases h2 : pvlg w with
    | true => simp [h2] at hp; exact (hp : False).elim
    | false =>
      simp only [h, h2] at k
      exact lv_dup_x1 hx hb hdg (pvcat h) (pvcat h2) (k H locs ls hW hS hl)
theorem pvL_goto (hx : p.tables.exec = Jvm.exec) (hb : c.code = cc) {a : Nat} {S : pvS} (hdg : decode cc S.1 = .ok (.goto ((a : Int) - (S.1 : Int)), 3))
    (k : pvG p l e R s m args below meth c Q nL D y ad A (pvs_goto a S).2) : pvG p l e R s m args below meth c Q nL D y ad A S := by
  obtain ⟨pc, lo, st, M⟩ := S
  intro H locs ls hW hS hl
  exact lv_goto (tgt := a) hx hb hdg (by show (pc : Int) + ((a : Int) - (pc : Int)) = a; omega) (k H locs ls hW hS hl)
theorem pvL_iinc (hx : p.tables.exec = Jvm.exec) (hb : c.code = cc) {a nx : Nat} {v : Int32} {S : pvS} (hn1 : a < nL) (hp : (pvs_iinc a v nx S).1) (hdg : decode cc S.1 = .ok (.iinc a v.toInt, 3)) (hnx : nx = S.1 + 3)
    (k : pvG p l e R s m args below meth c Q nL D y ad A (pvs_iinc a v nx S).2) : pvG p l e R s m args below meth c Q nL D y ad A S := by
  obtain ⟨pc, lo, st, M⟩ := S
  intro H locs ls hW hS hl
  subst hnx
  simp only [pvs_iinc] at hp k
  cases hg : lo.getD a none with
  | none => rw [hg] at hp; exact (hp : False).elim
  | some w =>
    rw [hg] at hp k
    rcases w with x | x | q
    · cases hok : pvok lo a with
      | false => simp [hok] at hp; exact (hp : False).elim
      | true =>
        simp only [hok] at k
        have hlt := pvlv_lt (ls := ls) hok
        have hm : (a, Value.int x) ∈ pvlv ad 0 lo := by
          have h' : lo[a]? = some (some (pvI x)) := by
            rw [List.getD_eq_getElem?_getD] at hg
            cases e : lo[a]? with
            | none => rw [e] at hg; cases hg
            | some w => rw [e] at hg; exact congrArg some hg
          have := pvlv_in (ad := ad) lo 0 a _ h'
          rwa [Nat.zero_add] at this
        obtain ⟨n, hn⟩ := List.mem_iff_getElem?.mp hm
        exact lv_iinc hx hb hdg hl hn (by rw [Int32.ofInt_toInt]) (by omega) rfl (fun ls' hl' => k H locs ls' hW hS (pvst1 (x := pvI (x + v)) hok hl'))
    · exact (hp : False).elim
    · exact (hp : False).elim
end PV
