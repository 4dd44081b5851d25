/-! branches, switches, calls, ends -/
/-- what comes back, as a contract's end has it -/
def pvQ (D : va_G) (y : Nat → ClassId) (ad : Nat → Nat) (kd : Nat) (r : Option pvV) (M' : pvM) : (Nat → Prop) → Array Value → State → Outcome → State → Prop := match kd with
  | 0 => zQv (S := Unit) D (fun _ => r = none) (fun _ => mkW y ad M')
  | 1 => zQi (S := Unit) D (fun x _ => r = some (pvI x)) (fun _ => mkW y ad M')
  | 2 => zQl (S := Unit) D (fun x _ => r = some (pvJ x)) (fun _ => mkW y ad M')
  | _ => zQr (S := Unit) D (fun a _ => ∃ q, r = some (pvR q) ∧ a = ad q) (fun _ => mkW y ad M')
section PV
variable {p : Program} {l : Launch} {e : Env} {R : Room} {s : State} {m : MethodId} {args : Array Value} {below : List Frame} {meth : Method} {c : Code} {Q : State → Prop}
variable {cc : ByteArray} {nL : Nat} {D : va_G} {y : Nat → ClassId} {ad : Nat → Nat} {A : Nat → Prop}
theorem pvL_if (hx : p.tables.exec = Jvm.exec) (hb : c.code = cc) {a b nx : Nat} {S : pvS} (hdg : decode cc S.1 = .ok (.ifCond (pvcond b) ((a : Int) - (S.1 : Int)), 3)) (hnx : nx = S.1 + 3)
    (k : pvif b a nx S (fun S' => pvG p l e R s m args below meth c Q nL D y ad A S')) : pvG p l e R s m args below meth c Q nL D y ad A S := by
  obtain ⟨pc, lo, st, M⟩ := S
  intro H locs ls hW hS hl
  subst hnx
  have ht : (pc : Int) + ((a : Int) - (pc : Int)) = (a : Int) := by omega
  rcases st with _ | ⟨x | _ | _, r⟩
  case cons.inl =>
    obtain ⟨kt, kf⟩ := k
    match b, hdg, kt, kf with
    | 0, hdg, kt, kf => exact lv_if_eq hx hb hdg ht (fun h => kt h H locs ls hW hS hl) (fun h => kf h H locs ls hW hS hl)
    | 1, hdg, kt, kf => exact lv_if_ne hx hb hdg ht (fun h => kt h H locs ls hW hS hl) (fun h => kf (fun u => u h) H locs ls hW hS hl)
    | 2, hdg, kt, kf => exact lv_if_lt hx hb hdg ht (fun h => kt h H locs ls hW hS hl) (fun h => kf h H locs ls hW hS hl)
    | 3, hdg, kt, kf => exact lv_if_ge hx hb hdg ht (fun h => kt h H locs ls hW hS hl) (fun h => kf h H locs ls hW hS hl)
    | 4, hdg, kt, kf => exact lv_if_gt hx hb hdg ht (fun h => kt h H locs ls hW hS hl) (fun h => kf h H locs ls hW hS hl)
    | b + 5, hdg, kt, kf => exact lv_if_le hx hb hdg ht (fun h => kt h H locs ls hW hS hl) (fun h => kf h H locs ls hW hS hl)
  all_goals exact (k : False).elim
theorem pvL_ic (hx : p.tables.exec = Jvm.exec) (hb : c.code = cc) {a b nx : Nat} {S : pvS} (hdg : decode cc S.1 = .ok (.if_icmp (pvcond b) ((a : Int) - (S.1 : Int)), 3)) (hnx : nx = S.1 + 3)
    (k : pvic b a nx S (fun S' => pvG p l e R s m args below meth c Q nL D y ad A S')) : pvG p l e R s m args below meth c Q nL D y ad A S := by
  obtain ⟨pc, lo, st, M⟩ := S
  intro H locs ls hW hS hl
  subst hnx
  have ht : (pc : Int) + ((a : Int) - (pc : Int)) = (a : Int) := by omega
  rcases st with _ | ⟨x | _ | _, _ | ⟨z | _ | _, r⟩⟩
  case cons.inl.cons.inl =>
    obtain ⟨kt, kf⟩ := k
    match b, hdg, kt, kf with
    | 0, hdg, kt, kf => exact lv_icmp_eq hx hb hdg ht (fun h => kt h H locs ls hW hS hl) (fun h => kf h H locs ls hW hS hl)
    | 1, hdg, kt, kf => exact lv_icmp_ne hx hb hdg ht (fun h => kt h H locs ls hW hS hl) (fun h => kf (fun u => u h) H locs ls hW hS hl)
    | 2, hdg, kt, kf => exact lv_icmp_lt hx hb hdg ht (fun h => kt h H locs ls hW hS hl) (fun h => kf h H locs ls hW hS hl)
    | 3, hdg, kt, kf => exact lv_icmp_ge hx hb hdg ht (fun h => kt h H locs ls hW hS hl) (fun h => kf h H locs ls hW hS hl)
    | 4, hdg, kt, kf => exact lv_icmp_gt hx hb hdg ht (fun h => kt h H locs ls hW hS hl) (fun h => kf h H locs ls hW hS hl)
    | b + 5, hdg, kt, kf => exact lv_icmp_le hx hb hdg ht (fun h => kt h H locs ls hW hS hl) (fun h => kf h H locs ls hW hS hl)
  all_goals exact (k : False).elim
theorem pvL_sw (hx : p.tables.exec = Jvm.exec) (hb : c.code = cc) {L : List (Int32 × Nat) × Nat} {S : pvS} (hc : pvswc (decode cc S.1) S.1 L = true)
    (k : pvsw L S (fun S' => pvG p l e R s m args below meth c Q nL D y ad A S')) : pvG p l e R s m args below meth c Q nL D y ad A S := by
  obtain ⟨pc, lo, st, M⟩ := S
  intro H locs ls hW hS hl
  have hc : pvswc (decode cc pc) pc L = true := hc
  rcases st with _ | ⟨x | _ | _, r⟩
  case cons.inl =>
    obtain ⟨t, h1, k⟩ := k
    have k := k H locs ls hW hS hl
    cases hdg : decode cc pc with
    | error er => rw [hdg] at hc; cases hc
    | ok i =>
      obtain ⟨i, len⟩ := i
      rw [hdg] at hc
      cases i
      case tableswitch d lo2 hi offs =>
        simp only [pvswc, Bool.and_eq_true, decide_eq_true_eq] at hc
        obtain ⟨⟨⟨⟨⟨c1, c2⟩, c3⟩, c4⟩, c5⟩, c6⟩ := hc
        have h1 : pvswR L.1 L.2 x t := h1
        rw [c1] at h1
        rcases pvtl_ok pc x L.2 t offs.toList lo2 c3 c4 c6 h1 with ⟨u, v⟩ | ⟨i, o, u1, u2, u3⟩
        · subst v
          exact lv_tableOut hx hb hdg (by omega) c2.symm k
        · have hlt : i < offs.toList.length := (List.getElem?_eq_some_iff.mp u1).1
          refine lv_tableIn hx hb hdg (by omega) (by omega) ?_ u3.symm k
          rw [show (x.toInt - lo2).toNat = i by omega, ← Array.getElem?_toList]
          exact u1
      case lookupswitch d ps =>
        simp only [pvswc, Bool.and_eq_true, decide_eq_true_eq] at hc
        obtain ⟨⟨⟨c1, c2⟩, c3⟩, c4⟩ := hc
        have h1 : pvswR L.1 L.2 x t := h1
        rw [c1] at h1
        exact lv_lookup hx hb hdg c4 rfl (pvlk_ok pc x L.2 t d c2 ps.toList c3 h1) k
      all_goals cases hc
  all_goals exact (k : False).elim
theorem pvlgs {ad : Nat → Nat} : ∀ as : List pvV, (lg_sl (as.map (pvt ad))).length = (pvsl as).length
  | [] => rfl
  | .inl x :: t => by
    have h := pvlgs (ad := ad) t
    show (lg_sl (Value.int x :: t.map (pvt ad))).length = _
    simp only [lg_sl, List.flatMap_cons, List.length_append] at h ⊢
    rw [h]
    simp [Value.category, pvsl]
    omega
  | .inr (.inl x) :: t => by
    have h := pvlgs (ad := ad) t
    show (lg_sl (Value.long x :: t.map (pvt ad))).length = _
    simp only [lg_sl, List.flatMap_cons, List.length_append] at h ⊢
    rw [h]
    simp [Value.category, pvsl]
    omega
  | .inr (.inr q) :: t => by
    have h := pvlgs (ad := ad) t
    show (lg_sl (Value.ref (ad q) :: t.map (pvt ad))).length = _
    simp only [lg_sl, List.flatMap_cons, List.length_append] at h ⊢
    rw [h]
    simp [Value.category, pvsl]
    omega
theorem pvlv_none {ad : Nat → Nat} : ∀ (n i : Nat), pvlv ad i (List.replicate n none) = []
  | 0, _ => rfl
  | n + 1, i => pvlv_none n (i + 1)
theorem pvlv_ent {ad : Nat → Nat} (n : Nat) : ∀ (as : List pvV) (i : Nat), pvlv ad i (pvsl as ++ List.replicate n none) = lv_args i (as.map (pvt ad))
  | [], i => pvlv_none n i
  | .inl x :: t, i => congrArg (List.cons _) (pvlv_ent n t (i + 1))
  | .inr (.inl x) :: t, i => congrArg (List.cons _) (pvlv_ent n t (i + 2))
  | .inr (.inr q) :: t, i => congrArg (List.cons _) (pvlv_ent n t (i + 1))
end PV
/-- the class of a method's receiver -/
theorem pvcC : ∀ j, j < pvynL.length → pvci j < 20 → (vwCl[pvci j]?).map (fun q => q.1) = some (pvyn j).cls := by decide +kernel
theorem pvoC : ∀ j, j < pvynL.length → pvcn (pvo j) = (pvyn j).cls := by decide +kernel
theorem pvpn : ∀ j, j < pvynL.length → plainName (pvyn j).cls = true := by decide +kernel
