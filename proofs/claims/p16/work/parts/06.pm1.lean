/-! a machine of our own over that memory: values, steps -/
abbrev pvV : Type := Int32 ⊕ Int64 ⊕ Nat
abbrev pvI (x : Int32) : pvV := .inl x
abbrev pvJ (x : Int64) : pvV := .inr (.inl x)
abbrev pvR (q : Nat) : pvV := .inr (.inr q)
abbrev pvM : Type := (Nat → Nat → Int32) × (Nat → Nat → Int64)
def pvt (ad : Nat → Nat) (v : pvV) : Value := match v with
  | .inl x => .int x
  | .inr (.inl x) => .long x
  | .inr (.inr q) => .ref (ad q)
/-- a row of the memory anew -/
def pvr (M : pvM) (q : Nat) (f : Nat → Int32) : pvM := (fun a => if a = q then f else M.1 a, M.2)
def pvrL (M : pvM) (q : Nat) (f : Nat → Int64) : pvM := (M.1, fun a => if a = q then f else M.2 a)
def pvu (M : pvM) (q k : Nat) (x : Int32) : pvM := pvr M q (upd (M.1 q) k x)
def pvw (M : pvM) (q k : Nat) (x : Int64) : pvM := pvrL M q (vp_updL (M.2 q) k x)
def pvhp (x : Int32) : Nat := x.toNatClampNeg
/-- a field's value: of an int (0) or boolean (1) as it lies, of a fixed object (2) by how far it lies, of a House that changes (3) -/
def pvfv (kd off q k : Nat) (f : Nat → Int32) : pvV := if kd = 2 then pvR (q + off) else if kd = 3 then pvR (pvhp (f k)) else pvI (f k)
def pvfl (ad : Nat → Nat) (ci q : Nat) (f : Nat → Int32) : List Value := (List.range (pvnf ci)).map fun k => pvt ad (pvfv (pvfk ci k).1 (pvfk ci k).2 q k f)
def pvce (y : Nat → ClassId) (ad : Nat → Nat) (q : Nat) (f : Nat → Int32) (g : Nat → Int64) : va_E :=
  if pvkl q = 20 then .inl (y 0, pvln q, .inl f) else if pvkl q = 21 then .inl (y 1, pvln q, .inr (.inl g)) else if pvkl q = 22 then .inl (y 2, pvln q, .inl f)
  else if 23 ≤ pvkl q then .inl (y (pvkl q - 20), pvln q, .inr (.inr (.inr (.inr (fun i => if i < pvln q then some (ad (pvbs q + i)) else none)))))
  else .inr (pvkl q, pvfl ad (pvkl q) q f)
def mkW (y : Nat → ClassId) (ad : Nat → Nat) (M : pvM) : va_W := (List.range pvNP).map fun q => (ad q, pvce y ad q (M.1 q) (M.2 q))
theorem pvW_get {y : Nat → ClassId} {ad : Nat → Nat} {M : pvM} {q : Nat} (h : q < pvNP) : (mkW y ad M)[q]? = some (ad q, pvce y ad q (M.1 q) (M.2 q)) := by
  unfold mkW
  rw [List.getElem?_map, List.getElem?_range h]
  rfl
theorem pvW_len {y : Nat → ClassId} {ad : Nat → Nat} {M : pvM} : (mkW y ad M).length = pvNP := by
  unfold mkW
  rw [List.length_map, List.length_range]
theorem pvW_set {y : Nat → ClassId} {ad : Nat → Nat} {M M' : pvM} {q : Nat} (h : ∀ a, a ≠ q → M'.1 a = M.1 a ∧ M'.2 a = M.2 a) {x : Nat × va_E} (hx : x = (ad q, pvce y ad q (M'.1 q) (M'.2 q))) : (mkW y ad M).set q x = mkW y ad M' := by
  subst hx
  apply List.ext_getElem?
  intro i
  rw [List.getElem?_set]
  by_cases hi : i < pvNP
  · rw [pvW_get hi, pvW_get hi, pvW_len]
    by_cases e : q = i
    · subst e
      rw [if_pos rfl, if_pos hi]
    · rw [if_neg e, (h i (fun u => e u.symm)).1, (h i (fun u => e u.symm)).2]
  · have e1 : (mkW y ad M)[i]? = none := List.getElem?_eq_none (by rw [pvW_len]; omega)
    have e2 : (mkW y ad M')[i]? = none := List.getElem?_eq_none (by rw [pvW_len]; omega)
    rw [e1, e2, pvW_len]
    split
    · next u => rw [if_neg (by omega)]
    · rfl
theorem pvkl_lt {q n : Nat} (h : pvkl q = n) (hn : n < 99) : q < pvNP := by
  apply Nat.not_le.mp
  intro u
  unfold pvkl at h
  rw [List.getD_eq_getElem?_getD, List.getElem?_eq_none (by exact u)] at h
  simp at h
  omega
theorem pvr_q (M : pvM) (q : Nat) (f : Nat → Int32) : (pvr M q f).1 q = f := if_pos rfl
theorem pvr_o (M : pvM) (q : Nat) (f : Nat → Int32) (a : Nat) (h : a ≠ q) : (pvr M q f).1 a = M.1 a ∧ (pvr M q f).2 a = M.2 a := ⟨if_neg h, rfl⟩
theorem pvrL_q (M : pvM) (q : Nat) (f : Nat → Int64) : (pvrL M q f).2 q = f := if_pos rfl
theorem pvrL_o (M : pvM) (q : Nat) (f : Nat → Int64) (a : Nat) (h : a ≠ q) : (pvrL M q f).1 a = M.1 a ∧ (pvrL M q f).2 a = M.2 a := ⟨rfl, if_neg h⟩
/-- the locals, as the machine's rows have them -/
def pvlv (ad : Nat → Nat) : Nat → List (Option pvV) → List (Nat × Value)
  | _, [] => []
  | i, none :: t => pvlv ad (i + 1) t
  | i, some v :: t => (i, pvt ad v) :: pvlv ad (i + 1) t
theorem pvlv_in {ad : Nat → Nat} : ∀ (lo : List (Option pvV)) (i a : Nat) (x : pvV), lo[a]? = some (some x) → (i + a, pvt ad x) ∈ pvlv ad i lo
  | [], _, _, _, h => by simp at h
  | o :: t, i, 0, x, h => by
    simp at h
    subst h
    simp [pvlv]
  | o :: t, i, a + 1, x, h => by
    have h' : t[a]? = some (some x) := by simpa using h
    have := pvlv_in (ad := ad) t (i + 1) a x h'
    rw [show i + (a + 1) = i + 1 + a by omega]
    cases o with
    | none => exact this
    | some v => exact List.mem_cons_of_mem _ this
theorem pvlv_of {ad : Nat → Nat} : ∀ (lo : List (Option pvV)) (i k : Nat) (v : Value), (k, v) ∈ pvlv ad i lo → ∃ a x, k = i + a ∧ lo[a]? = some (some x) ∧ v = pvt ad x
  | [], _, _, _, h => by simp [pvlv] at h
  | none :: t, i, k, v, h => by
    obtain ⟨a, x, h1, h2, h3⟩ := pvlv_of t (i + 1) k v h
    exact ⟨a + 1, x, by omega, by simpa using h2, h3⟩
  | some w :: t, i, k, v, h => by
    rcases List.mem_cons.mp h with e | h
    · cases e
      exact ⟨0, w, rfl, rfl, rfl⟩
    · obtain ⟨a, x, h1, h2, h3⟩ := pvlv_of t (i + 1) k v h
      exact ⟨a + 1, x, by omega, by simpa using h2, h3⟩
def pvlg (v : pvV) : Bool := match v with
  | .inr (.inl _) => true
  | _ => false
theorem pvcat {ad : Nat → Nat} {x : pvV} (h : pvlg x = false) : (pvt ad x).category = 1 := by
  rcases x with x | x | x
  · rfl
  · cases h
  · rfl
/-- a store at a may not break a long ahead of it -/
def pvok (lo : List (Option pvV)) (a : Nat) : Bool := Nat.blt a lo.length && (match a with
  | 0 => true
  | b + 1 => (match lo.getD b none with
    | some v => !pvlg v
    | none => true))
theorem pvst1 {ad : Nat → Nat} {ls : Array Slot} {nL a : Nat} {lo : List (Option pvV)} {x : pvV} (hok : pvok lo a = true) (h : lv_has ls nL ((a, pvt ad x) :: (pvlv ad 0 lo).filter (fun q => !(q.1 == a) && !(q.1 + 1 == a && q.2.category == 2)))) : lv_has ls nL (pvlv ad 0 (lo.set a (some x))) := by
  refine ⟨h.1, h.2.1, fun q hq => ?_⟩
  obtain ⟨k, v⟩ := q
  obtain ⟨b, z, h1, h2, h3⟩ := pvlv_of _ _ _ _ hq
  have h1 : k = b := by omega
  subst h1
  subst h3
  rw [List.getElem?_set] at h2
  by_cases e : a = k
  · subst e
    rw [if_pos rfl] at h2
    split at h2
    · cases h2
      exact h.2.2 _ List.mem_cons_self
    · cases h2
  · rw [if_neg e] at h2
    apply h.2.2
    apply List.mem_cons_of_mem
    rw [List.mem_filter]
    refine ⟨by have := pvlv_in (ad := ad) lo 0 k z h2; rwa [Nat.zero_add] at this, ?_⟩
    have e1 : (k == a) = false := by simp; omega
    have e2 : (k + 1 == a && (pvt ad z).category == 2) = false := by
      by_cases e3 : k + 1 = a
      · subst e3
        unfold pvok at hok
        have hg : lo.getD k none = some z := by rw [List.getD_eq_getElem?_getD, h2]; rfl
        simp only [hg, Bool.and_eq_true] at hok
        have h5 : pvlg z = false := by have := hok.2; simpa using this
        simp [pvcat (ad := ad) h5]
      · simp [e3]
    simp only [e1, e2]
    rfl
theorem pvst2 {ad : Nat → Nat} {ls : Array Slot} {nL a : Nat} {lo : List (Option pvV)} {x : pvV} (hok : pvok lo a = true) (h : lv_has ls nL ((a, pvt ad x) :: (pvlv ad 0 lo).filter (fun q => !(q.1 == a) && (!(q.1 == a + 1) && !(q.1 + 1 == a && q.2.category == 2))))) : lv_has ls nL (pvlv ad 0 ((lo.set a (some x)).set (a + 1) none)) := by
  refine ⟨h.1, h.2.1, fun q hq => ?_⟩
  obtain ⟨k, v⟩ := q
  obtain ⟨b, z, h1, h2, h3⟩ := pvlv_of _ _ _ _ hq
  have h1 : k = b := by omega
  subst h1
  subst h3
  rw [List.getElem?_set] at h2
  by_cases e4 : a + 1 = k
  · rw [if_pos e4] at h2
    split at h2 <;> cases h2
  rw [if_neg e4, List.getElem?_set] at h2
  by_cases e : a = k
  · subst e
    rw [if_pos rfl] at h2
    split at h2
    · cases h2
      exact h.2.2 _ List.mem_cons_self
    · cases h2
  · rw [if_neg e] at h2
    apply h.2.2
    apply List.mem_cons_of_mem
    rw [List.mem_filter]
    refine ⟨by have := pvlv_in (ad := ad) lo 0 k z h2; rwa [Nat.zero_add] at this, ?_⟩
    have e1 : (k == a) = false := by simp; omega
    have e5 : (k == a + 1) = false := by simp; omega
    have e2 : (k + 1 == a && (pvt ad z).category == 2) = false := by
      by_cases e3 : k + 1 = a
      · subst e3
        unfold pvok at hok
        have hg : lo.getD k none = some z := by rw [List.getD_eq_getElem?_getD, h2]; rfl
        simp only [hg, Bool.and_eq_true] at hok
        have h5 : pvlg z = false := by have := hok.2; simpa using this
        simp [pvcat (ad := ad) h5]
      · simp [e3]
    simp only [e1, e2, e5]
    rfl
theorem pvfl_set {ad : Nat → Nat} {ci q k : Nat} {f : Nat → Int32} {x : Int32} {v : Value} (hk : k < pvnf ci) (hv : pvt ad (pvfv (pvfk ci k).1 (pvfk ci k).2 q k (upd f k x)) = v) : (pvfl ad ci q f).set k v = pvfl ad ci q (upd f k x) := by
  subst hv
  unfold pvfl
  apply List.ext_getElem?
  intro i
  rw [List.getElem?_set, List.getElem?_map, List.getElem?_map, List.length_map, List.length_range]
  by_cases hi : i < pvnf ci
  · rw [List.getElem?_range hi]
    by_cases e : k = i
    · subst e
      rw [if_pos rfl, if_pos hi]
      rfl
    · rw [if_neg e]
      have e2 : upd f k x i = f i := if_neg (fun u => e u.symm)
      simp only [Option.map_some, pvfv, e2]
  · rw [List.getElem?_eq_none (by simp; omega)]
    rw [if_neg (by omega)]
    rfl
theorem pvfl_get {ad : Nat → Nat} {ci q k : Nat} {f : Nat → Int32} (hk : k < pvnf ci) : (pvfl ad ci q f)[k]? = some (pvt ad (pvfv (pvfk ci k).1 (pvfk ci k).2 q k f)) := by
  unfold pvfl
  rw [List.getElem?_map, List.getElem?_range hk]
  rfl
theorem pvfl_len {ad : Nat → Nat} {ci q : Nat} {f : Nat → Int32} : (pvfl ad ci q f).length = pvnf ci := by
  unfold pvfl
  rw [List.length_map, List.length_range]
