/-! Math, arraycopy, the static arrays, the constants of the Reader -/
def pvMa1 (own : String) (a b : Nat) : Prop := match b with
  | 0 => Cond.methodLink own a Lib.Math.max.name ∈ zT ∧ Cond.static Lib.Math.max.name ∈ zT ∧ Cond.initialized "java/lang/Math" ∈ zT ∧ Cond.code Lib.Math.max.name Lib.Math.max.code 2 (some .int) ∈ zT
  | 1 => Cond.methodLink own a Lib.Math.min.name ∈ zT ∧ Cond.static Lib.Math.min.name ∈ zT ∧ Cond.initialized "java/lang/Math" ∈ zT ∧ Cond.code Lib.Math.min.name Lib.Math.min.code 2 (some .int) ∈ zT
  | _ => Cond.methodLink own a Lib.Math.abs.name ∈ zT ∧ Cond.static Lib.Math.abs.name ∈ zT ∧ Cond.initialized "java/lang/Math" ∈ zT ∧ Cond.code Lib.Math.abs.name Lib.Math.abs.code 1 (some .int) ∈ zT
def pvAc1 (own : String) (a : Nat) : Prop := Cond.methodLink own a arraycopyName ∈ zT ∧ Cond.native arraycopyName ∈ zT ∧ Cond.static arraycopyName ∈ zT ∧ Cond.initialized "java/lang/System" ∈ zT
def pvGs1 (own : String) (a b : Nat) : Prop := match b with
  | 0 => Cond.fieldLink own a "NineWindows$Kind" "ABOVE" "[I" ∈ zT
  | _ => Cond.fieldLink own a "NineWindows$Acts" "BODIES" "[I" ∈ zT
def pvadE (y : Nat → ClassId) (ad : Nat → Nat) : Prop := ∀ i, ad (1000 + i) = y i
section PV
variable {p : Program} {l : Launch} {e : Env} {R : Room} {s : State} {m : MethodId} {args : Array Value} {below : List Frame} {meth : Method} {c : Code} {Q : State → Prop}
variable {cc : ByteArray} {nL : Nat} {D : va_G} {y : Nat → ClassId} {ad : Nat → Nat} {A : Nat → Prop}
theorem pvcs (ad : Nat → Nat) : ∀ st : List pvV, ((st.map (pvt ad)).map fun v => v.category).sum ≤ 2 * st.length
  | [] => Nat.le_refl _
  | v :: t => by
    have h := pvcs ad t
    have h2 : (pvt ad v).category ≤ 2 := by rcases v with x | x | x <;> simp [pvt, Value.category]
    simp only [List.map_cons, List.sum_cons, List.length_cons]
    omega
theorem pvL_math (hx : p.tables.exec = Jvm.exec) (hb : c.code = cc) {a b nx : Nat} {S : pvS} {own : String} (hml : c.maxLocals = nL) (hts : ∀ w ∈ zT, w.before args s = true) (hown : s.vm.findClass own = some m.cls) (hM : pvMa1 own a b) (hb3 : b < 3) (hf : 1 ≤ R.frames) (hlo : 21 ≤ R.locals)
    (hp : (pvs_math b nx S).1) (hdg : decode cc S.1 = .ok (.invokestatic a, 3)) (hnx : nx = S.1 + 3)
    (k : pvG p l e R s m args below meth c Q nL D y ad A (pvs_math b nx S).2) : pvG p l e R s m args below meth c Q nL D y ad A S := by
  obtain ⟨pc, lo, st, M⟩ := S
  intro H locs ls hW hS hl
  subst hnx
  have hsz : c.maxLocals = ls.size := by rw [hml]; exact hl.1.symm
  rcases st with _ | ⟨x | _ | _, r⟩
  case cons.inl =>
    match b, hb3, hM, hp, k with
    | 2, _, hM, hp, k =>
      have hr : r.length ≤ 4 := hp
      have h3 := pvcs ad r
      exact va_mabs hx hb hsz hown (hts _ hM.1) (hts _ hM.2.1) (hts _ hM.2.2.1) (hts _ hM.2.2.2) hf (by omega) (Nat.zero_le _) (Nat.zero_le _) hdg (k H locs ls hW hS hl)
    | 0, _, hM, hp, k =>
      rcases r with _ | ⟨z | _ | _, r⟩
      case cons.inl =>
        have hr : r.length ≤ 4 := hp
        have h3 := pvcs ad r
        exact va_mmax hx hb hsz hown (hts _ hM.1) (hts _ hM.2.1) (hts _ hM.2.2.1) (hts _ hM.2.2.2) hf (by omega) (Nat.zero_le _) (Nat.zero_le _) hdg (k H locs ls hW hS hl)
      all_goals exact (hp : False).elim
    | 1, _, hM, hp, k =>
      rcases r with _ | ⟨z | _ | _, r⟩
      case cons.inl =>
        have hr : r.length ≤ 4 := hp
        have h3 := pvcs ad r
        exact va_mmin hx hb hsz hown (hts _ hM.1) (hts _ hM.2.1) (hts _ hM.2.2.1) (hts _ hM.2.2.2) hf (by omega) (Nat.zero_le _) (Nat.zero_le _) hdg (k H locs ls hW hS hl)
      all_goals exact (hp : False).elim
  all_goals exact (hp : False).elim
theorem pvL_copy (hx : p.tables.exec = Jvm.exec) (hb : c.code = cc) {a b nx : Nat} {S : pvS} {own : String} (hml : c.maxLocals = nL) (hts : ∀ w ∈ zT, w.before args s = true) (hown : s.vm.findClass own = some m.cls) (hK : zK D y s) (hM : pvAc1 own a) (hf : 1 ≤ R.frames) (hlo : 8 + (nativeFrameWords "java/lang/System" "arraycopy" 5 + 11) ≤ R.locals)
    (hp : (pvs_copy b nx S).1) (hdg : decode cc S.1 = .ok (.invokestatic a, 3)) (hnx : nx = S.1 + 3)
    (k : pvG p l e R s m args below meth c Q nL D y ad A (pvs_copy b nx S).2) : pvG p l e R s m args below meth c Q nL D y ad A S := by
  obtain ⟨pc, lo, st, M⟩ := S
  intro H locs ls hW hS hl
  subst hnx
  have hsz : c.maxLocals = ls.size := by rw [hml]; exact hl.1.symm
  rcases st with _ | ⟨n | _ | _, _ | ⟨dp | _ | _, _ | ⟨_ | _ | z, _ | ⟨sp | _ | _, _ | ⟨_ | _ | q, r⟩⟩⟩⟩⟩
  case cons.inl.cons.inl.cons.inr.inr.cons.inl.cons.inr.inr =>
    have h3 := pvcs ad r
    match b, hp, k with
    | 0, hp, k =>
      obtain ⟨hq, hz, g1, g2, g3, g4, g5, g6⟩ := hp
      refine va_copyi hx hb hsz hown (hts _ hM.1) (hts _ hM.2.1) (hts _ hM.2.2.1) (hts _ hM.2.2.2) hK.1 hW.1 hW.2 hS q z 0 0 (pvW_at hq (by omega) (pvce_20 hq)) (pvW_at hz (by omega) (pvce_20 hz)) rfl rfl rfl g1 g2 g3 g4 g5 (fun _ _ => rfl) hf (by omega) hdg ?_
      intro H1 locs1 a1 a2 a3
      have e : (mkW y ad M).set z (ad z, .inl (y 0, pvln z, .inl (va_cpy (M.1 q) (M.1 z) sp.toNatClampNeg dp.toNatClampNeg n.toNatClampNeg))) = mkW y ad (pvr M z (va_cpy (M.1 q) (M.1 z) sp.toNatClampNeg dp.toNatClampNeg n.toNatClampNeg)) := by
        refine pvW_set (fun z hz => pvr_o _ _ _ _ hz) ?_
        rw [pvce_20 hz, pvr_q]
      exact k H1 locs1 ls ⟨e ▸ a1, e ▸ a2⟩ a3 hl
    | b + 1, hp, k =>
      obtain ⟨hq, hz, g1, g2, g3, g4, g5, g6⟩ := hp
      refine va_copyl hx hb hsz hown (hts _ hM.1) (hts _ hM.2.1) (hts _ hM.2.2.1) (hts _ hM.2.2.2) hK.1 hW.1 hW.2 hS q z 1 1 (pvW_at hq (by omega) (pvce_21 hq)) (pvW_at hz (by omega) (pvce_21 hz)) rfl rfl rfl g1 g2 g3 g4 g5 (fun _ _ => rfl) hf (by omega) hdg ?_
      intro H1 locs1 a1 a2 a3
      have e : (mkW y ad M).set z (ad z, .inl (y 1, pvln z, .inr (.inl (va_cpy (M.2 q) (M.2 z) sp.toNatClampNeg dp.toNatClampNeg n.toNatClampNeg)))) = mkW y ad (pvrL M z (va_cpy (M.2 q) (M.2 z) sp.toNatClampNeg dp.toNatClampNeg n.toNatClampNeg)) := by
        refine pvW_set (fun z hz => pvrL_o _ _ _ _ hz) ?_
        rw [pvce_21 hz, pvrL_q]
      exact k H1 locs1 ls ⟨e ▸ a1, e ▸ a2⟩ a3 hl
  all_goals exact (hp : False).elim
theorem pvL_gets (hx : p.tables.exec = Jvm.exec) (hb : c.code = cc) {a b nx : Nat} {S : pvS} {own : String} (hts : ∀ w ∈ zT, w.before args s = true) (hown : s.vm.findClass own = some m.cls) (hE : zE y A s s.heap) (had : pvadE y ad) (hG : pvGs1 own a b) (hb2 : b < 2) (hdg : decode cc S.1 = .ok (.getstatic a, 3)) (hnx : nx = S.1 + 3)
    (k : pvG p l e R s m args below meth c Q nL D y ad A (pvs_gets b nx S).2) : pvG p l e R s m args below meth c Q nL D y ad A S := by
  obtain ⟨pc, lo, st, M⟩ := S
  intro H locs ls hW hS hl
  subst hnx
  match b, hb2, hG, k with
  | 0, _, hG, k =>
    refine va_gets hx hb hE.2.2.1 hS hown (hts _ hG) (fun _ h => h) hdg ?_
    have k := k H locs ls hW hS hl
    rw [← had 40]
    exact k
  | 1, _, hG, k =>
    refine va_gets hx hb hE.2.2.2.2.1 hS hown (hts _ hG) (fun _ h => h) hdg ?_
    have k := k H locs ls hW hS hl
    rw [← had 41]
    exact k
theorem pvL_sld (hx : p.tables.exec = Jvm.exec) (hb : c.code = cc) {nx : Nat} {S : pvS} (hE : zE y A s s.heap) (had : pvadE y ad) (hp : (pvs_sld nx S).1) (hdg : decode cc S.1 = .ok (.iaload, 1)) (hnx : nx = S.1 + 1)
    (k : pvG p l e R s m args below meth c Q nL D y ad A (pvs_sld nx S).2) : pvG p l e R s m args below meth c Q nL D y ad A S := by
  obtain ⟨pc, lo, st, M⟩ := S
  intro H locs ls hW hS hl
  subst hnx
  rcases st with _ | ⟨i | _ | _, _ | ⟨_ | _ | q, r⟩⟩
  case cons.inl.cons.inr.inr =>
    obtain ⟨hq, hi⟩ := hp
    have k := k H locs ls hW hS hl
    rcases hq with rfl | rfl
    · show W p l e R s m args below meth c H locs 0 0 Q (F0 m pc ls (.int i :: .ref (ad (1000 + 40)) :: r.map (pvt ad)))
      rw [had 40]
      exact va_ti hx hb hE.2.2.2.1 hS hi rfl hdg k
    · show W p l e R s m args below meth c H locs 0 0 Q (F0 m pc ls (.int i :: .ref (ad (1000 + 41)) :: r.map (pvt ad)))
      rw [had 41]
      exact va_ti hx hb hE.2.2.2.2.2.1 hS hi rfl hdg k
  all_goals exact (hp : False).elim
theorem pvL_slen (hx : p.tables.exec = Jvm.exec) (hb : c.code = cc) {nx : Nat} {S : pvS} (hE : zE y A s s.heap) (had : pvadE y ad) (hp : (pvs_slen nx S).1) (hdg : decode cc S.1 = .ok (.arraylength, 1)) (hnx : nx = S.1 + 1)
    (k : pvG p l e R s m args below meth c Q nL D y ad A (pvs_slen nx S).2) : pvG p l e R s m args below meth c Q nL D y ad A S := by
  obtain ⟨pc, lo, st, M⟩ := S
  intro H locs ls hW hS hl
  subst hnx
  rcases st with _ | ⟨_ | _ | q, r⟩
  case cons.inr.inr =>
    have hq : q = 1040 ∨ q = 1041 := hp
    have k := k H locs ls hW hS hl
    rcases hq with rfl | rfl
    · show W p l e R s m args below meth c H locs 0 0 Q (F0 m pc ls (.ref (ad (1000 + 40)) :: r.map (pvt ad)))
      rw [had 40]
      exact va_tlen hx hb hE.2.2.2.1 hS rfl hdg k
    · show W p l e R s m args below meth c H locs 0 0 Q (F0 m pc ls (.ref (ad (1000 + 41)) :: r.map (pvt ad)))
      rw [had 41]
      exact va_tlen hx hb hE.2.2.2.2.2.1 hS rfl hdg k
  all_goals exact (hp : False).elim
theorem pvL_ldcs (hx : p.tables.exec = Jvm.exec) (hb : c.code = cc) {a b nx : Nat} {S : pvS} (hown : s.vm.findClass "NineWindows$Reader" = some m.cls) (hE : zE y A s s.heap) (had : pvadE y ad) (ha : a = zsi.getD b 0) (hp : (pvs_ldcs b nx S).1) (hdg : decode cc S.1 = .ok (.ldc a, 2)) (hnx : nx = S.1 + 2)
    (k : pvG p l e R s m args below meth c Q nL D y ad A (pvs_ldcs b nx S).2) : pvG p l e R s m args below meth c Q nL D y ad A S := by
  obtain ⟨pc, lo, st, M⟩ := S
  intro H locs ls hW hS hl
  subst hnx
  subst ha
  have hb7 : b < 7 := hp
  refine va_ldcS hx hb hown (hE.2.1 b hb7) hdg ?_
  have k := k H locs ls hW hS hl
  have e : ad (1010 + b) = y (10 + b) := by rw [show 1010 + b = 1000 + (10 + b) by omega]; exact had _
  rw [← e]
  exact k
end PV
