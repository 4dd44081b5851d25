/-! panes of both sides: what is kept, copied, made new -/
def zKc (a : Nat) (M X : pvM) : Prop := ∀ i : Nat, i < 7 → (∀ f : Nat, f < 5 → X.1 (a + i) f = M.1 (a + i) f) ∧ (∀ j : Nat, j < 4 → X.1 (a + 7 + i) j = M.1 (a + 7 + i) j)
def zKm (a b : Nat) (M X : pvM) : Prop := ∀ i : Nat, i < 7 → (∀ f : Nat, f < 5 → X.1 (a + f) i = M.1 (a + f) i) ∧ (∀ j : Nat, j < 4 → X.1 b (4 * i + j) = M.1 b (4 * i + j))
def zKcx (L : List (Nat × Nat × Nat)) (a : Nat) : Bool := (List.range 7).all fun i => ((List.range 5).all fun f => !pvfp L (a + i) f) && ((List.range 4).all fun j => !pvfp L (a + 7 + i) j)
def zKmx (L : List (Nat × Nat × Nat)) (a b : Nat) : Bool := (List.range 7).all fun i => ((List.range 5).all fun f => !pvfp L (a + f) i) && ((List.range 4).all fun j => !pvfp L b (4 * i + j))
theorem zKc_fr {L : List (Nat × Nat × Nat)} {a : Nat} {M X : pvM} (hf : pvFr (pvfp L) M X) (hx : zKcx L a = true) : zKc a M X := fun i hi => by
  have h1 := List.all_eq_true.mp hx i (List.mem_range.mpr hi)
  rw [Bool.and_eq_true] at h1
  refine ⟨fun f h => hf _ _ ?_, fun j h => hf _ _ ?_⟩
  · have h2 := List.all_eq_true.mp h1.1 f (List.mem_range.mpr h)
    simpa using h2
  · have h2 := List.all_eq_true.mp h1.2 j (List.mem_range.mpr h)
    simpa using h2
theorem zKm_fr {L : List (Nat × Nat × Nat)} {a b : Nat} {M X : pvM} (hf : pvFr (pvfp L) M X) (hx : zKmx L a b = true) : zKm a b M X := fun i hi => by
  have h1 := List.all_eq_true.mp hx i (List.mem_range.mpr hi)
  rw [Bool.and_eq_true] at h1
  refine ⟨fun f h => hf _ _ ?_, fun j h => hf _ _ ?_⟩
  · have h2 := List.all_eq_true.mp h1.1 f (List.mem_range.mpr h)
    simpa using h2
  · have h2 := List.all_eq_true.mp h1.2 j (List.mem_range.mpr h)
    simpa using h2
theorem zKc_r (a : Nat) (M : pvM) : zKc a M M := fun _ _ => ⟨fun _ _ => rfl, fun _ _ => rfl⟩
theorem zKm_r (a b : Nat) (M : pvM) : zKm a b M M := fun _ _ => ⟨fun _ _ => rfl, fun _ _ => rfl⟩
theorem zKc_t {a : Nat} {M Y X : pvM} (h : zKc a M Y) (k : zKc a Y X) : zKc a M X := fun i hi => ⟨fun f hf => ((k i hi).1 f hf).trans ((h i hi).1 f hf), fun j hj => ((k i hi).2 j hj).trans ((h i hi).2 j hj)⟩
theorem zKm_t {a b : Nat} {M Y X : pvM} (h : zKm a b M Y) (k : zKm a b Y X) : zKm a b M X := fun i hi => ⟨fun f hf => ((k i hi).1 f hf).trans ((h i hi).1 f hf), fun j hj => ((k i hi).2 j hj).trans ((h i hi).2 j hj)⟩
/-- copied: the first so many panes (class), all seven (reference) -/
def zC (a b : Nat) (n : Int32) (M X : pvM) : Prop := ∀ i : Nat, i < 7 → (i : Int) < n.toInt → (∀ f : Nat, f < 5 → X.1 (a + i) f = M.1 (b + i) f) ∧ (∀ j : Nat, j < 4 → X.1 (a + 7 + i) j = M.1 (b + 7 + i) j)
def zD (a a2 b b2 : Nat) (M X : pvM) : Prop := ∀ i : Nat, i < 7 → (∀ f : Nat, f < 5 → X.1 (a + f) i = M.1 (b + f) i) ∧ (∀ j : Nat, j < 4 → X.1 a2 (4 * i + j) = M.1 b2 (4 * i + j))
theorem zC_k {a b : Nat} {n : Int32} {M Y X : pvM} (h : zC a b n M Y) (k : zKc a Y X) : zC a b n M X := fun i hi hn => ⟨fun f hf => ((k i hi).1 f hf).trans ((h i hi hn).1 f hf), fun j hj => ((k i hi).2 j hj).trans ((h i hi hn).2 j hj)⟩
/-- a window is made, or nothing is done -/
def zW9 (n1 n2 n3 n4 n5 : Int32) (M X : pvM) : Prop := (X.1 8 1 = M.1 8 1 ∧ zKc 60 M X) ∨ ∃ c : Nat, c < 7 ∧ (M.1 8 1).toInt = (c : Int) ∧ (X.1 8 1).toInt = (c : Int) + 1 ∧ (∀ i : Nat, i < 7 → i ≠ c → (∀ f : Nat, f < 5 → X.1 (60 + i) f = M.1 (60 + i) f) ∧ (∀ j : Nat, j < 4 → X.1 (60 + 7 + i) j = M.1 (60 + 7 + i) j)) ∧ (X.1 (60 + c) 0 = n1 ∧ X.1 (60 + c) 1 = n2 ∧ X.1 (60 + c) 2 = n3 ∧ X.1 (60 + c) 3 = n4 ∧ X.1 (60 + c) 4 = n5) ∧ (∀ j : Nat, j < 4 → X.1 (60 + 7 + c) j = 0)
def zW10 (n1 n2 n3 n4 n5 : Int32) (M X : pvM) : Prop := (X.1 124 0 = M.1 124 0 ∧ zKm 125 130 M X) ∨ ∃ c : Nat, c < 7 ∧ (M.1 124 0).toInt = (c : Int) ∧ (X.1 124 0).toInt = (c : Int) + 1 ∧ (∀ i : Nat, i < 7 → i ≠ c → (∀ f : Nat, f < 5 → X.1 (125 + f) i = M.1 (125 + f) i) ∧ (∀ j : Nat, j < 4 → X.1 130 (4 * i + j) = M.1 130 (4 * i + j))) ∧ (X.1 (125 + 0) c = n1 ∧ X.1 (125 + 1) c = n2 ∧ X.1 (125 + 2) c = n3 ∧ X.1 (125 + 3) c = n4 ∧ X.1 (125 + 4) c = n5) ∧ (∀ j : Nat, j < 4 → X.1 130 (4 * c + j) = 0)
def zU9 (M X : pvM) : Prop := (M.1 0 5 = 0 ∧ zKc 60 M X) ∨ (¬ M.1 0 5 = 0 ∧ zC 60 74 (M.1 9 1) M X)
def zU10 (M X : pvM) : Prop := (M.1 124 46 = 0 ∧ zKm 125 130 M X) ∨ (¬ M.1 124 46 = 0 ∧ zD 125 130 151 156 M X)
/-- what both sides say alike of the panes, and of the image's -/
def zP1 (M : pvM) : Prop := ∀ i : Nat, i < 7 → (i : Int) < (M.1 8 1).toInt → (∀ f : Nat, f < 5 → M.1 (60 + i) f = M.1 (125 + f) i) ∧ (∀ j : Nat, j < 4 → M.1 (60 + 7 + i) j = M.1 130 (4 * i + j))
def zP2 (M : pvM) : Prop := ∀ i : Nat, i < 7 → (i : Int) < (M.1 9 1).toInt → (∀ f : Nat, f < 5 → M.1 (74 + i) f = M.1 (151 + f) i) ∧ (∀ j : Nat, j < 4 → M.1 (74 + 7 + i) j = M.1 156 (4 * i + j))
theorem zP1_k {M X : pvM} (h : zP1 M) (w : X.1 8 1 = M.1 8 1) (k1 : zKc 60 M X) (k3 : zKm 125 130 M X) : zP1 X := fun i hi hn => by
  rw [w] at hn
  obtain ⟨a, b⟩ := h i hi hn
  exact ⟨fun f hf => by rw [(k1 i hi).1 f hf, (k3 i hi).1 f hf]; exact a f hf, fun j hj => by rw [(k1 i hi).2 j hj, (k3 i hi).2 j hj]; exact b j hj⟩
theorem zP2_k {M X : pvM} (h : zP2 M) (w : X.1 9 1 = M.1 9 1) (k2 : zKc 74 M X) (k4 : zKm 151 156 M X) : zP2 X := fun i hi hn => by
  rw [w] at hn
  obtain ⟨a, b⟩ := h i hi hn
  exact ⟨fun f hf => by rw [(k2 i hi).1 f hf, (k4 i hi).1 f hf]; exact a f hf, fun j hj => by rw [(k2 i hi).2 j hj, (k4 i hi).2 j hj]; exact b j hj⟩
theorem zP1_w {n1 n2 n3 n4 n5 : Int32} {M Y X : pvM} (h : zP1 M) (hw : M.1 8 1 = M.1 124 0) (g9 : zW9 n1 n2 n3 n4 n5 M Y) (k3 : zKm 125 130 M Y) (wY : Y.1 124 0 = M.1 124 0) (g10 : zW10 n1 n2 n3 n4 n5 Y X) (k1 : zKc 60 Y X) (wX : X.1 8 1 = Y.1 8 1) (hX : X.1 8 1 = X.1 124 0) : zP1 X := by
  have e0 : (M.1 8 1).toInt = (Y.1 124 0).toInt := by rw [hw, wY]
  have e1 : (X.1 124 0).toInt = (Y.1 8 1).toInt := by rw [← hX, wX]
  rcases g9 with ⟨a, b⟩ | ⟨c, c7, cM, cY, same, ⟨v0, v1, v2, v3, v4⟩, rw0⟩
  · rcases g10 with ⟨a2, b2⟩ | ⟨d, d7, dY, dX, -, -, -⟩
    · exact zP1_k h (wX.trans a) (zKc_t b k1) (zKm_t k3 b2)
    · have e2 := congrArg Int32.toInt a
      omega
  · rcases g10 with ⟨a2, b2⟩ | ⟨d, d7, dY, dX, same2, ⟨u0, u1, u2, u3, u4⟩, rw2⟩
    · have e2 := congrArg Int32.toInt a2
      omega
    · have cd : d = c := by omega
      subst cd
      intro i hi hn
      rw [wX] at hn
      by_cases q : i = d
      · subst q
        refine ⟨fun f hf => ?_, fun j hj => ?_⟩
        · rw [(k1 i hi).1 f hf]
          match f, hf with
          | 0, _ => exact v0.trans u0.symm
          | 1, _ => exact v1.trans u1.symm
          | 2, _ => exact v2.trans u2.symm
          | 3, _ => exact v3.trans u3.symm
          | 4, _ => exact v4.trans u4.symm
          | f + 5, z => omega
        · rw [(k1 i hi).2 j hj, rw0 j hj, rw2 j hj]
      · obtain ⟨a, b⟩ := h i hi (by omega)
        refine ⟨fun f hf => ?_, fun j hj => ?_⟩
        · rw [(k1 i hi).1 f hf, (same i hi q).1 f hf, (same2 i hi q).1 f hf, (k3 i hi).1 f hf]
          exact a f hf
        · rw [(k1 i hi).2 j hj, (same i hi q).2 j hj, (same2 i hi q).2 j hj, (k3 i hi).2 j hj]
          exact b j hj
theorem zP2_i {M Y X : pvM} (h : zP1 M) (g9 : zC 74 60 (M.1 8 1) M Y) (k3 : zKm 125 130 M Y) (g10 : zD 151 156 125 130 Y X) (k2 : zKc 74 Y X) (w : X.1 9 1 = M.1 8 1) : zP2 X := fun i hi hn => by
  rw [w] at hn
  obtain ⟨a, b⟩ := h i hi hn
  refine ⟨fun f hf => ?_, fun j hj => ?_⟩
  · rw [(k2 i hi).1 f hf, (g9 i hi hn).1 f hf, (g10 i hi).1 f hf, (k3 i hi).1 f hf]
    exact a f hf
  · rw [(k2 i hi).2 j hj, (g9 i hi hn).2 j hj, (g10 i hi).2 j hj, (k3 i hi).2 j hj]
    exact b j hj
theorem zP1_u {M Y X : pvM} (h : zP1 M) (h2 : zP2 M) (e : M.1 0 5 = M.1 124 46) (g9 : zU9 M Y) (k3 : zKm 125 130 M Y) (k4 : zKm 151 156 M Y) (eY : Y.1 124 46 = M.1 124 46) (g10 : zU10 Y X) (k1 : zKc 60 Y X) (w : X.1 8 1 = if M.1 0 5 = 0 then M.1 8 1 else M.1 9 1) : zP1 X := by
  rcases g9 with ⟨a, b⟩ | ⟨a, b⟩
  · rw [if_pos a] at w
    rcases g10 with ⟨a2, b2⟩ | ⟨a2, -⟩
    · exact zP1_k h w (zKc_t b k1) (zKm_t k3 b2)
    · exact absurd (eY.trans (e.symm.trans a)) a2
  · rw [if_neg a] at w
    rcases g10 with ⟨a2, -⟩ | ⟨a2, b2⟩
    · exact absurd (e.trans (eY.symm.trans a2)) a
    · intro i hi hn
      rw [w] at hn
      obtain ⟨x, y⟩ := h2 i hi hn
      refine ⟨fun f hf => ?_, fun j hj => ?_⟩
      · rw [(k1 i hi).1 f hf, (b i hi hn).1 f hf, (b2 i hi).1 f hf, (k4 i hi).1 f hf]
        exact x f hf
      · rw [(k1 i hi).2 j hj, (b i hi hn).2 j hj, (b2 i hi).2 j hj, (k4 i hi).2 j hj]
        exact y j hj
/-- a row's number is written, or nothing is done -/
def zV9 (n1 n2 n3 : Int32) (r : Option pvV) (M X : pvM) : Prop := ∃ x : Int32, r = some (pvI x) ∧ ((x.toInt < 0 ∧ zKc 60 M X) ∨ (0 ≤ x.toInt ∧ ∀ i : Nat, i < 7 → (∀ f : Nat, f < 5 → X.1 (60 + i) f = M.1 (60 + i) f) ∧ (∀ j : Nat, j < 4 → X.1 (60 + 7 + i) j = if i = Int32.toNatClampNeg n1 ∧ j = Int32.toNatClampNeg n2 then n3 else M.1 (60 + 7 + i) j)))
def zV10 (n1 n2 n3 : Int32) (r : Option pvV) (M X : pvM) : Prop := ∃ x : Int32, r = some (pvI x) ∧ ((x.toInt < 0 ∧ zKm 125 130 M X) ∨ (0 ≤ x.toInt ∧ ∀ i : Nat, i < 7 → (∀ f : Nat, f < 5 → X.1 (125 + f) i = M.1 (125 + f) i) ∧ (∀ j : Nat, j < 4 → X.1 130 (4 * i + j) = if i = Int32.toNatClampNeg n1 ∧ j = Int32.toNatClampNeg n2 then n3 else M.1 130 (4 * i + j))))
theorem zP1_v {n1 n2 n3 r r2 : Int32} {M Y X : pvM} (h : zP1 M) (er : r = r2) (g9 : zV9 n1 n2 n3 (some (pvI r)) M Y) (k3 : zKm 125 130 M Y) (g10 : zV10 n1 n2 n3 (some (pvI r2)) Y X) (k1 : zKc 60 Y X) (w : X.1 8 1 = M.1 8 1) : zP1 X := by
  subst er
  obtain ⟨x9, e9, g9⟩ := g9
  obtain ⟨x10, e10, g10⟩ := g10
  have q9 : r = x9 := Sum.inl.inj (Option.some.inj e9)
  have q10 : r = x10 := Sum.inl.inj (Option.some.inj e10)
  subst q9
  subst q10
  rcases g9 with ⟨a, b⟩ | ⟨a, b⟩
  · rcases g10 with ⟨a2, b2⟩ | ⟨a2, -⟩
    · exact zP1_k h w (zKc_t b k1) (zKm_t k3 b2)
    · omega
  · rcases g10 with ⟨a2, -⟩ | ⟨a2, b2⟩
    · omega
    · intro i hi hn
      rw [w] at hn
      obtain ⟨x, y⟩ := h i hi hn
      refine ⟨fun f hf => ?_, fun j hj => ?_⟩
      · rw [(k1 i hi).1 f hf, (b i hi).1 f hf, (b2 i hi).1 f hf, (k3 i hi).1 f hf]
        exact x f hf
      · rw [(k1 i hi).2 j hj, (b i hi).2 j hj, (b2 i hi).2 j hj, (k3 i hi).2 j hj, y j hj]
theorem zrow9 {M X : pvM} {b : Nat} {n1 n2 n3 : Int32} (hb : b = 60) (e : X = pvu M (b + Int32.toNatClampNeg n1 + 7) (Int32.toNatClampNeg n2) n3) (i j : Nat) : X.1 (60 + 7 + i) j = if i = Int32.toNatClampNeg n1 ∧ j = Int32.toNatClampNeg n2 then n3 else M.1 (60 + 7 + i) j := by
  have u : b + Int32.toNatClampNeg n1 + 7 = 60 + 7 + Int32.toNatClampNeg n1 := by omega
  by_cases h : i = Int32.toNatClampNeg n1 ∧ j = Int32.toNatClampNeg n2
  · rw [if_pos h, h.1, h.2, ← u]
    exact pvu_s e
  · rw [if_neg h]
    exact pvu_n e _ _ (by omega)
theorem zrow10 {M X : pvM} {n1 n2 n3 : Int32} (h1 : 0 ≤ n1.toInt ∧ n1.toInt ≤ 6) (h2 : 0 ≤ n2.toInt ∧ n2.toInt ≤ 3) (e : X = pvu M 130 (Int32.toNatClampNeg ((4 * n1) + n2)) n3) (i j : Nat) (hj : j < 4) : X.1 130 (4 * i + j) = if i = Int32.toNatClampNeg n1 ∧ j = Int32.toNatClampNeg n2 then n3 else M.1 130 (4 * i + j) := by
  have u4 : (4 : Int32).toInt = 4 := by decide
  have a1 : (4 * n1).toInt = 4 * n1.toInt := by rw [zmul 4 n1 (by rw [u4]; omega) (by rw [u4]; omega), u4]
  have u : Int32.toNatClampNeg ((4 * n1) + n2) = 4 * Int32.toNatClampNeg n1 + Int32.toNatClampNeg n2 := by
    show ((4 * n1) + n2).toInt.toNat = 4 * n1.toInt.toNat + n2.toInt.toNat
    rw [zadd (4 * n1) n2 (by omega) (by omega), a1]
    omega
  have p : Int32.toNatClampNeg n2 < 4 := by
    show n2.toInt.toNat < 4
    omega
  rw [u] at e
  by_cases h : i = Int32.toNatClampNeg n1 ∧ j = Int32.toNatClampNeg n2
  · rw [if_pos h, h.1, h.2]
    exact pvu_s e
  · rw [if_neg h]
    exact pvu_n e _ _ (Or.inr (by omega))
theorem zk4 {n1 n2 : Int32} (h1 : 0 ≤ n1.toInt ∧ n1.toInt ≤ 6) (h2 : 0 ≤ n2.toInt ∧ n2.toInt ≤ 3) : Int32.toNatClampNeg ((4 * n1) + n2) = 4 * Int32.toNatClampNeg n1 + Int32.toNatClampNeg n2 := by
  have u4 : (4 : Int32).toInt = 4 := by decide
  have a1 : (4 * n1).toInt = 4 * n1.toInt := by rw [zmul 4 n1 (by rw [u4]; omega) (by rw [u4]; omega), u4]
  show ((4 * n1) + n2).toInt.toNat = 4 * n1.toInt.toNat + n2.toInt.toNat
  rw [zadd (4 * n1) n2 (by omega) (by omega), a1]
  omega
/-! the trace: these bodies are noted behind those that ran -/
def zTr (tp tk ap : Nat) (L : List Int32) (M X : pvM) : Prop := (X.1 tp tk).toInt = (M.1 tp tk).toInt + L.length ∧ ∀ j : Nat, j < 20 → X.1 ap j = if (M.1 tp tk).toInt.toNat ≤ j ∧ j < (M.1 tp tk).toInt.toNat + L.length then L.getD (j - (M.1 tp tk).toInt.toNat) 0 else M.1 ap j
theorem zTr_0 (tp tk ap : Nat) (M : pvM) : zTr tp tk ap [] M M := by
  refine ⟨by simp, fun j hj => ?_⟩
  rw [if_neg (by simp only [List.length_nil]; omega)]
theorem zTr_c {tp tk ap : Nat} {L1 L2 : List Int32} {M Y X : pvM} (h0 : 0 ≤ (M.1 tp tk).toInt) (a : zTr tp tk ap L1 M Y) (b : zTr tp tk ap L2 Y X) : zTr tp tk ap (L1 ++ L2) M X := by
  obtain ⟨a1, a2⟩ := a
  obtain ⟨b1, b2⟩ := b
  refine ⟨by rw [b1, a1, List.length_append]; omega, fun j hj => ?_⟩
  have u : (Y.1 tp tk).toInt.toNat = (M.1 tp tk).toInt.toNat + L1.length := by omega
  rw [b2 j hj, u, a2 j hj, List.length_append]
  by_cases c : (M.1 tp tk).toInt.toNat + L1.length ≤ j ∧ j < (M.1 tp tk).toInt.toNat + L1.length + L2.length
  · rw [if_pos c, if_pos (by omega), List.getD_eq_getElem?_getD, List.getD_eq_getElem?_getD, List.getElem?_append_right (by omega)]
    congr 2
    omega
  · rw [if_neg c]
    by_cases d : (M.1 tp tk).toInt.toNat ≤ j ∧ j < (M.1 tp tk).toInt.toNat + L1.length
    · rw [if_pos d, if_pos (by omega), List.getD_eq_getElem?_getD, List.getD_eq_getElem?_getD, List.getElem?_append_left (by omega)]
    · rw [if_neg d, if_neg (by omega)]
theorem zTr_k {tp tk ap : Nat} {L : List Int32} {M Y X : pvM} (a : zTr tp tk ap L M Y) (k : X.1 tp tk = Y.1 tp tk) (kk : ∀ j : Nat, j < 20 → X.1 ap j = Y.1 ap j) : zTr tp tk ap L M X :=
  ⟨by rw [k]; exact a.1, fun j hj => by rw [kk j hj]; exact a.2 j hj⟩
theorem zTr_n {tp tk ap : Nat} {b : Int32} {M Y X : pvM} (ne : tp ≠ ap) (hr : 0 ≤ (M.1 tp tk).toInt ∧ (M.1 tp tk).toInt ≤ 999) (e1 : (20 ≤ M.1 tp tk ∧ Y = M) ∨ (¬ 20 ≤ M.1 tp tk ∧ Y = pvu M ap (Int32.toNatClampNeg (M.1 tp tk)) b)) (e2 : X = pvu Y tp tk (M.1 tp tk + 1)) : zTr tp tk ap [b] M X := by
  have u1 : (1 : Int32).toInt = 1 := by decide
  have u20 : (20 : Int32).toInt = 20 := by decide
  have s1 : (M.1 tp tk + 1).toInt = (M.1 tp tk).toInt + 1 := by rw [zadd _ _ (by rw [u1]; omega) (by rw [u1]; omega), u1]
  have c : X.1 tp tk = M.1 tp tk + 1 := pvu_s e2
  refine ⟨by rw [c, s1]; rfl, fun j hj => ?_⟩
  rw [pvu_n e2 ap j (Or.inl (Ne.symm ne))]
  have tn : Int32.toNatClampNeg (M.1 tp tk) = (M.1 tp tk).toInt.toNat := rfl
  rcases e1 with ⟨h, rfl⟩ | ⟨h, e1⟩
  · rw [zi_le, u20] at h
    rw [if_neg (by simp only [List.length_cons, List.length_nil]; omega)]
  · rw [zi_le, u20] at h
    by_cases d : j = (M.1 tp tk).toInt.toNat
    · subst d
      rw [if_pos (by simp only [List.length_cons, List.length_nil]; omega), Nat.sub_self, ← tn]
      exact pvu_s e1
    · rw [if_neg (by simp only [List.length_cons, List.length_nil]; omega)]
      exact pvu_n e1 ap j (Or.inr (by rw [tn]; exact d))
/-- all that is noted -/
def zTs (tp tk ap : Nat) (L : List Int32) (X : pvM) : Prop := (X.1 tp tk).toInt = L.length ∧ ∀ j : Nat, j < 20 → j < L.length → X.1 ap j = L.getD j 0
theorem zTs_r {tp tk ap : Nat} {L : List Int32} {Y X : pvM} (h : zTr tp tk ap L Y X) (z : Y.1 tp tk = 0) : zTs tp tk ap L X := by
  obtain ⟨a, b⟩ := h
  have u : (Y.1 tp tk).toInt = 0 := by rw [z]; decide
  rw [u] at a b
  refine ⟨by omega, fun j hj hl => ?_⟩
  have := b j hj
  rw [if_pos (by simpa using hl)] at this
  simpa using this
theorem zTs_0 {tp tk ap : Nat} {X : pvM} (z : X.1 tp tk = 0) : zTs tp tk ap [] X := ⟨by rw [z]; decide, fun j _ h => absurd h (Nat.not_lt_zero _)⟩
def zTk (tp tk ap : Nat) (M X : pvM) : Prop := X.1 tp tk = M.1 tp tk ∧ ∀ j : Nat, j < 20 → X.1 ap j = M.1 ap j
theorem zTk_r (tp tk ap : Nat) (M : pvM) : zTk tp tk ap M M := ⟨rfl, fun _ _ => rfl⟩
theorem zTk_fr {tp tk ap : Nat} {L : List (Nat × Nat × Nat)} {M X : pvM} (hf : pvFr (pvfp L) M X) (h : (!pvfp L tp tk && (List.range 20).all (fun j => !pvfp L ap j)) = true) : zTk tp tk ap M X := by
  rw [Bool.and_eq_true] at h
  refine ⟨hf tp tk (by simpa using h.1), fun j hj => hf ap j ?_⟩
  simpa using List.all_eq_true.mp h.2 j (List.mem_range.mpr hj)
def zPT (M : pvM) : Prop := M.1 3 1 = M.1 124 70 ∧ ∀ j : Nat, j < 20 → (j : Int) < (M.1 3 1).toInt → M.1 4 j = M.1 163 j
theorem zPT_k {M Y X : pvM} (h : zPT M) (a : zTk 3 1 4 M Y) (b : zTk 124 70 163 M Y) (a2 : zTk 3 1 4 Y X) (b2 : zTk 124 70 163 Y X) : zPT X := by
  refine ⟨by rw [a2.1, a.1, b2.1, b.1, h.1], fun j hj hl => ?_⟩
  rw [a2.1, a.1] at hl
  rw [a2.2 j hj, a.2 j hj, b2.2 j hj, b.2 j hj]
  exact h.2 j hj hl
theorem zPT_a {L : List Int32} {Y X : pvM} (a : zTs 3 1 4 L Y) (a2 : zTk 3 1 4 Y X) (b : zTs 124 70 163 L X) : zPT X := by
  have e : X.1 3 1 = X.1 124 70 := Int32.toInt_inj.mp (by rw [a2.1, a.1, b.1])
  refine ⟨e, fun j hj hl => ?_⟩
  rw [a2.1, a.1] at hl
  rw [a2.2 j hj, a.2 j hj (by omega), b.2 j hj (by omega)]
theorem zTr_e {tp tk ap : Nat} {T L : List Int32} {M X : pvM} (e : T = L) (h : zTr tp tk ap L M X) : zTr tp tk ap T M X := e ▸ h
theorem zTs_e {tp tk ap : Nat} {T L : List Int32} {X : pvM} (e : T = L) (h : zTs tp tk ap L X) : zTs tp tk ap T X := e ▸ h
theorem zTr_c0 {tp tk ap : Nat} {L : List Int32} {M Y X : pvM} (h0 : 0 ≤ (M.1 tp tk).toInt) (a : zTr tp tk ap [] M Y) (b : zTr tp tk ap L Y X) : zTr tp tk ap L M X := zTr_c (L1 := []) h0 a b
/-! rows copied by loops, one by one -/
def zC1 (d s n : Nat) (M X : pvM) : Prop := ∀ i : Nat, i < n → X.1 d i = M.1 s i
theorem zC1_0 (d s : Nat) (M X : pvM) : zC1 d s (Int32.toNatClampNeg 0) M X := fun i h => absurd h (Nat.not_lt_zero _)
theorem zC1_u {d s n q k : Nat} {v : Int32} {M Y X : pvM} (h : zC1 d s n M Y) (e : X = pvu Y q k v) (ne : d ≠ q) : zC1 d s n M X := fun i hi => (pvu_n e d i (Or.inl ne)).trans (h i hi)
theorem zC1_w {d s n : Nat} {v : Int32} {M Y X : pvM} (h : zC1 d s n M Y) (e : X = pvu Y d n v) (hv : v = M.1 s n) : zC1 d s (n + 1) M X := by
  intro i hi
  by_cases c : i = n
  · subst c
    exact (pvu_s e).trans hv
  · exact (pvu_n e d i (Or.inr c)).trans (h i (by omega))
theorem zC1_n {d s n n' : Nat} {M X : pvM} (e : n' = n) (h : zC1 d s n M X) : zC1 d s n' M X := e ▸ h
theorem znp1 {x : Int32} {a b : Int} (h : a ≤ x.toInt ∧ x.toInt ≤ b) (ha : 0 ≤ a) (hb : b ≤ 1000) : Int32.toNatClampNeg (x + 1) = Int32.toNatClampNeg x + 1 := by
  have u1 : (1 : Int32).toInt = 1 := by decide
  show (x + 1).toInt.toNat = x.toInt.toNat + 1
  rw [zadd x 1 (by rw [u1]; omega) (by rw [u1]; omega), u1]
  omega
theorem znp0 {x : Int32} {n : Nat} (h : (n : Int) ≤ x.toInt ∧ x.toInt ≤ (n : Int)) : n = Int32.toNatClampNeg x := by
  show n = x.toInt.toNat
  omega
theorem zvnar {x : Int32} (h : 0 ≤ x.toInt ∧ x.toInt ≤ 1) : vp_nar .boolean x = x := by
  have u0 : (0 : Int32).toInt = 0 := by decide
  have u1 : (1 : Int32).toInt = 1 := by decide
  have e : x = 0 ∨ x = 1 := by
    rw [zi_eq, zi_eq, u0, u1]
    omega
  rcases e with rfl | rfl <;> rfl
theorem zD_c {a b c e : Nat} {M X : pvM} (h0 : zC1 a c 7 M X) (h1 : zC1 (a + 1) (c + 1) 7 M X) (h2 : zC1 (a + 2) (c + 2) 7 M X) (h3 : zC1 (a + 3) (c + 3) 7 M X) (h4 : zC1 (a + 4) (c + 4) 7 M X) (hr : zC1 b e 28 M X) : zD a b c e M X := by
  intro i hi
  refine ⟨fun f hf => ?_, fun j hj => hr _ (by omega)⟩
  match f, hf with
  | 0, _ => exact h0 i hi
  | 1, _ => exact h1 i hi
  | 2, _ => exact h2 i hi
  | 3, _ => exact h3 i hi
  | 4, _ => exact h4 i hi
  | f + 5, z => exact absurd z (by omega)
/-! rows of windows: searched, appended to, copied -/
abbrev zhas (f : Nat → Int32) (n : Nat) (w : Int32) : Prop := ∃ i : Nat, i < n ∧ f i = w
theorem zhas_c {f g : Nat → Int32} {n : Nat} {w : Int32} (h : ∀ i : Nat, i < n → f i = g i) : zhas f n w ↔ zhas g n w := ⟨fun ⟨i, a, b⟩ => ⟨i, a, (h i a).symm.trans b⟩, fun ⟨i, a, b⟩ => ⟨i, a, (h i a).trans b⟩⟩
theorem znm_0 (f : Nat → Int32) (w : Int32) : ∀ j : Nat, j < Int32.toNatClampNeg 0 → f j ≠ w := fun j h => absurd h (Nat.not_lt_zero j)
theorem znm_s {f : Nat → Int32} {w i : Int32} {a b : Int} (hr : a ≤ i.toInt ∧ i.toInt ≤ b) (ha : 0 ≤ a) (hb : b ≤ 1000) (h : ∀ j : Nat, j < Int32.toNatClampNeg i → f j ≠ w) (ne : ¬ f (Int32.toNatClampNeg i) = w) : ∀ j : Nat, j < Int32.toNatClampNeg (i + 1) → f j ≠ w := by
  intro j hj
  rw [znp1 hr ha hb] at hj
  by_cases c : j = Int32.toNatClampNeg i
  · subst c
    exact ne
  · exact h j (by omega)
theorem znm_i {f : Nat → Int32} {w i n : Int32} (h0 : 0 ≤ i.toInt) (hl : ¬ n ≤ i) (e : f (Int32.toNatClampNeg i) = w) : zhas f (Int32.toNatClampNeg n) w := by
  rw [zi_le] at hl
  exact ⟨_, (show i.toInt.toNat < n.toInt.toNat by omega), e⟩
theorem znm_o {f : Nat → Int32} {w i n : Int32} (h : ∀ j : Nat, j < Int32.toNatClampNeg i → f j ≠ w) (hl : n ≤ i) : ¬ zhas f (Int32.toNatClampNeg n) w := by
  rw [zi_le] at hl
  rintro ⟨j, a, b⟩
  have a : j < n.toInt.toNat := a
  exact h j (show j < i.toInt.toNat by omega) b
/-- one more in a row of windows with numbers -/
def zAp (q a b cap : Nat) (n1 n2 : Int32) (M X : pvM) : Prop := ((M.1 q 0).toInt < cap → (∀ j : Nat, X.1 a j = if j = Int32.toNatClampNeg (M.1 q 0) then n1 else M.1 a j) ∧ (∀ j : Nat, X.1 b j = if j = Int32.toNatClampNeg (M.1 q 0) then n2 else M.1 b j)) ∧ (¬ (M.1 q 0).toInt < cap → (∀ j : Nat, X.1 a j = M.1 a j) ∧ (∀ j : Nat, X.1 b j = M.1 b j))
theorem zAp_y {q a b cap : Nat} {n1 n2 v : Int32} {M Y Z X : pvM} (ab : a ≠ b) (aq : a ≠ q) (bq : b ≠ q) (hr : (M.1 q 0).toInt < cap) (e1 : Y = pvu M a (Int32.toNatClampNeg (M.1 q 0)) n1) (e2 : Z = pvu Y b (Int32.toNatClampNeg (Y.1 q 0)) n2) (e3 : X = pvu Z q 0 v) : zAp q a b cap n1 n2 M X := by
  have c : Y.1 q 0 = M.1 q 0 := pvu_n e1 q 0 (Or.inl (Ne.symm aq))
  rw [c] at e2
  refine ⟨fun _ => ⟨fun j => ?_, fun j => ?_⟩, fun h => absurd hr h⟩
  · rw [pvu_n e3 a j (Or.inl aq), pvu_n e2 a j (Or.inl ab)]
    by_cases d : j = Int32.toNatClampNeg (M.1 q 0)
    · subst d
      rw [if_pos rfl]
      exact pvu_s e1
    · rw [if_neg d]
      exact pvu_n e1 a j (Or.inr d)
  · rw [pvu_n e3 b j (Or.inl bq)]
    by_cases d : j = Int32.toNatClampNeg (M.1 q 0)
    · subst d
      rw [if_pos rfl]
      exact pvu_s e2
    · rw [if_neg d, pvu_n e2 b j (Or.inr d)]
      exact pvu_n e1 b j (Or.inl (Ne.symm ab))
theorem zAp_n {q a b cap : Nat} {n1 n2 : Int32} {M : pvM} (hr : ¬ (M.1 q 0).toInt < cap) : zAp q a b cap n1 n2 M M := ⟨fun h => absurd h hr, fun _ => ⟨fun _ => rfl, fun _ => rfl⟩⟩
theorem zC1_ap {q d b cap s : Nat} {i v w : Int32} {M Y X : pvM} (h : zC1 d s (Int32.toNatClampNeg i) M Y) (ap : zAp q d b cap v w Y X) (hq : Y.1 q 0 = i) (hi : i.toInt < cap) (hv : v = M.1 s (Int32.toNatClampNeg i)) : zC1 d s (Int32.toNatClampNeg i + 1) M X := by
  subst hq
  intro j hj
  rw [(ap.1 hi).1 j]
  by_cases c : j = Int32.toNatClampNeg (Y.1 q 0)
  · rw [if_pos c, c]
    exact hv
  · rw [if_neg c]
    exact h j (by omega)
theorem zC1_bp {q a d cap s : Nat} {i v w : Int32} {M Y X : pvM} (h : zC1 d s (Int32.toNatClampNeg i) M Y) (ap : zAp q a d cap v w Y X) (hq : Y.1 q 0 = i) (hi : i.toInt < cap) (hv : w = M.1 s (Int32.toNatClampNeg i)) : zC1 d s (Int32.toNatClampNeg i + 1) M X := by
  subst hq
  intro j hj
  rw [(ap.1 hi).2 j]
  by_cases c : j = Int32.toNatClampNeg (Y.1 q 0)
  · rw [if_pos c, c]
    exact hv
  · rw [if_neg c]
    exact h j (by omega)
theorem zC1_f {d s n n' : Nat} {M Y X : pvM} (h : zC1 d s n Y X) (hn : n' = n) (hs : ∀ i : Nat, Y.1 s i = M.1 s i) : zC1 d s n' M X := fun i hi => (h i (hn ▸ hi)).trans (hs i)
theorem zC1_g {d s n : Nat} {M X Z : pvM} (h : zC1 d s n M X) (hx : ∀ i : Nat, Z.1 d i = X.1 d i) : zC1 d s n M Z := fun i hi => (hx i).trans (h i hi)
def zU1 (cq ck d s n : Nat) (M X : pvM) : Prop := (M.1 cq ck = 0 ∧ ∀ i : Nat, X.1 d i = M.1 d i) ∨ (¬ M.1 cq ck = 0 ∧ zC1 d s n M X)
def zRk (a cap : Nat) (M X : pvM) : Prop := ∀ i : Nat, i < cap → X.1 a i = M.1 a i
theorem zRk_r (a cap : Nat) (M : pvM) : zRk a cap M M := fun _ _ => rfl
theorem zRk_fr {L : List (Nat × Nat × Nat)} {a cap : Nat} {M X : pvM} (hf : pvFr (pvfp L) M X) (h : ((List.range cap).all fun i => !pvfp L a i) = true) : zRk a cap M X := fun i hi => hf a i (by simpa using List.all_eq_true.mp h i (List.mem_range.mpr hi))
/-- the row of both sides is the same -/
def zRr (q a b cap : Nat) (M : pvM) : Prop := ∀ i : Nat, i < cap → (i : Int) < (M.1 q 0).toInt → M.1 a i = M.1 b i
theorem zRr_k {q a b cap : Nat} {M Y X : pvM} (h : zRr q a b cap M) (w : X.1 q 0 = M.1 q 0) (a1 : zRk a cap M Y) (b1 : zRk b cap M Y) (a2 : zRk a cap Y X) (b2 : zRk b cap Y X) : zRr q a b cap X := by
  intro i hi hn
  rw [w] at hn
  rw [a2 i hi, a1 i hi, b2 i hi, b1 i hi]
  exact h i hi hn
/-- a window goes to the end of the round, the round is cleared, or nothing is done -/
def zAd (q k a cap : Nat) (n1 : Int32) (r : Option pvV) (M X : pvM) : Prop := ∃ x : Int32, r = some (pvI x) ∧ ((x.toInt < 0 ∧ X.1 q k = M.1 q k ∧ ∀ i : Nat, i < cap → X.1 a i = M.1 a i) ∨ (x = 0 ∧ X.1 q k = 0) ∨ (0 < x.toInt ∧ (M.1 q k).toInt < cap ∧ X.1 q k = M.1 q k + 1 ∧ ∀ i : Nat, i < cap → X.1 a i = if i = Int32.toNatClampNeg (M.1 q k) then n1 else M.1 a i))
theorem zAd_9 {q a b cap : Nat} {c : Int32} {n1 n2 : Int32} {M X : pvM} (hc : c.toInt = cap) (hcap : cap ≤ 100) (hl : M.1 q 0 < c) (h0 : 0 ≤ (M.1 q 0).toInt) (ap : zAp q a b cap n1 n2 M X) (hx : X.1 q 0 = (if M.1 q 0 < c then M.1 q 0 + 1 else M.1 q 0)) : zAd q 0 a cap n1 (some (pvI (if M.1 q 0 < c then M.1 q 0 + 1 else M.1 q 0))) M X := by
  have u1 : (1 : Int32).toInt = 1 := by decide
  have hl2 := hl
  rw [zi_lt, hc] at hl2
  rw [if_pos hl] at hx ⊢
  exact ⟨_, rfl, Or.inr (Or.inr ⟨by rw [zadd _ _ (by rw [u1]; omega) (by rw [u1]; omega), u1]; omega, hl2, hx, fun i _ => (ap.1 hl2).1 i⟩)⟩
theorem zAd_10 {q k a cap : Nat} {n1 v : Int32} {M Y X : pvM} (aq : a ≠ q) (hcap : cap ≤ 100) (hr : 0 ≤ (M.1 q k).toInt ∧ (M.1 q k).toInt < cap) (e1 : Y = pvu M a (Int32.toNatClampNeg (M.1 q k)) n1) (e2 : X = pvu Y q k v) (hv : v = M.1 q k + 1) : zAd q k a cap n1 (some (pvI (X.1 q k))) M X := by
  have u1 : (1 : Int32).toInt = 1 := by decide
  have c : X.1 q k = M.1 q k + 1 := (pvu_s e2).trans hv
  refine ⟨_, rfl, Or.inr (Or.inr ⟨by rw [c, zadd _ _ (by rw [u1]; omega) (by rw [u1]; omega), u1]; omega, hr.2, c, fun i _ => ?_⟩)⟩
  rw [pvu_n e2 a i (Or.inl aq)]
  by_cases d : i = Int32.toNatClampNeg (M.1 q k)
  · subst d
    rw [if_pos rfl]
    exact pvu_s e1
  · rw [if_neg d]
    exact pvu_n e1 a i (Or.inr d)
theorem zAd_e {q k a cap : Nat} {n1 x y : Int32} {M X : pvM} (e : x = y) (h : zAd q k a cap n1 (some (pvI y)) M X) : zAd q k a cap n1 (some (pvI x)) M X := e ▸ h
theorem zRr_a {q p k a b cap : Nat} {n1 r r2 : Int32} {M Y X : pvM} (hcap : cap ≤ 100) (h : zRr q a b cap M) (h0 : 0 ≤ (M.1 q 0).toInt) (w : M.1 q 0 = M.1 p k) (er : r = r2) (g9 : zAd q 0 a cap n1 (some (pvI r)) M Y) (k9 : zRk b cap M Y) (kw : Y.1 p k = M.1 p k) (g10 : zAd p k b cap n1 (some (pvI r2)) Y X) (k10 : zRk a cap Y X) (kx : X.1 q 0 = Y.1 q 0) : zRr q a b cap X ∧ X.1 q 0 = X.1 p k := by
  subst er
  obtain ⟨x9, e9, g9⟩ := g9
  obtain ⟨x10, e10, g10⟩ := g10
  have q9 : r = x9 := Sum.inl.inj (Option.some.inj e9)
  have q10 : r = x10 := Sum.inl.inj (Option.some.inj e10)
  subst q9
  subst q10
  have u0 : (0 : Int32).toInt = 0 := by decide
  have u1 : (1 : Int32).toInt = 1 := by decide
  rcases g9 with ⟨a1, a2, a3⟩ | ⟨a1, a2⟩ | ⟨a1, a2, a3, a4⟩
  · rcases g10 with ⟨b1, b2, b3⟩ | ⟨b1, b2⟩ | ⟨b1, b2, b3, b4⟩
    · exact ⟨zRr_k h (kx.trans a2) a3 k9 k10 b3, by rw [kx, a2, b2, kw, w]⟩
    · rw [b1, u0] at a1; omega
    · omega
  · rcases g10 with ⟨b1, b2, b3⟩ | ⟨b1, b2⟩ | ⟨b1, b2, b3, b4⟩
    · rw [a1, u0] at b1; omega
    · refine ⟨fun i hi hn => ?_, by rw [kx, a2, b2]⟩
      rw [kx, a2, u0] at hn
      omega
    · rw [a1, u0] at b1; omega
  · rcases g10 with ⟨b1, b2, b3⟩ | ⟨b1, b2⟩ | ⟨b1, b2, b3, b4⟩
    · omega
    · rw [b1, u0] at a1; omega
    · refine ⟨fun i hi hn => ?_, by rw [kx, a3, b3, kw, w]⟩
      rw [kx, a3, zadd _ _ (by rw [u1]; omega) (by rw [u1]; omega), u1] at hn
      rw [k10 i hi, a4 i hi, b4 i hi, kw, ← w, k9 i hi]
      by_cases d : i = Int32.toNatClampNeg (M.1 q 0)
      · rw [if_pos d, if_pos d]
      · rw [if_neg d, if_neg d]
        have d2 : i ≠ (M.1 q 0).toInt.toNat := d
        exact h i hi (by omega)
/-- the image's row -/
theorem zRr_i {q q2 a b a2 b2 cap n : Nat} {M Y X : pvM} (h : zRr q a b cap M) (g9 : zC1 a2 a n M Y) (hn : n = Int32.toNatClampNeg (M.1 q 0)) (kb : zRk b cap M Y) (g10 : zC1 b2 b cap Y X) (k2 : zRk a2 cap Y X) (w : X.1 q2 0 = M.1 q 0) : zRr q2 a2 b2 cap X := by
  intro i hi hl
  rw [w] at hl
  have hn : n = (M.1 q 0).toInt.toNat := hn
  rw [k2 i hi, g9 i (by omega), g10 i hi, kb i hi]
  exact h i hi hl
theorem zRr_u {q q2 a b a2 b2 cap n cq ck dq dk : Nat} {M Y X : pvM} (h : zRr q a b cap M) (h2 : zRr q2 a2 b2 cap M) (ee : M.1 cq ck = M.1 dq dk) (g9 : zU1 cq ck a a2 n M Y) (hn : n = Int32.toNatClampNeg (M.1 q2 0)) (kb : zRk b cap M Y) (kb2 : zRk b2 cap M Y) (kd : Y.1 dq dk = M.1 dq dk) (g10 : zU1 dq dk b b2 cap Y X) (k2 : zRk a cap Y X) (w : M.1 cq ck = 0 → X.1 q 0 = M.1 q 0) (w2 : ¬ M.1 cq ck = 0 → X.1 q 0 = M.1 q2 0) : zRr q a b cap X := by
  rcases g9 with ⟨a1, a3⟩ | ⟨a1, a3⟩
  · rcases g10 with ⟨b1, b3⟩ | ⟨b1, b3⟩
    · exact zRr_k h (w a1) (fun i _ => a3 i) kb k2 (fun i _ => b3 i)
    · exact absurd (kd.trans (ee.symm.trans a1)) b1
  · rcases g10 with ⟨b1, b3⟩ | ⟨b1, b3⟩
    · exact absurd (ee.trans (kd.symm.trans b1)) a1
    · intro i hi hl
      rw [w2 a1] at hl
      have hn : n = (M.1 q2 0).toInt.toNat := hn
      rw [k2 i hi, a3 i (by omega), b3 i hi, kb2 i hi]
      exact h2 i hi hl
/-! the language of the texts, with what is laid: one machine by signs (-1: behind the end) -/
def zdig (c : Int32) : Bool := decide (48 ≤ c) && decide (c ≤ 57)
def znu (σ : Nat → Int32) (p : Nat) : Bool × Nat × Int32 := if zdig (σ p) = true then (if zdig (σ (p + 1)) = true then (true, p + 2, ((10 * (σ p - 48)) + σ (p + 1)) - 48) else (true, p + 1, σ p - 48)) else (false, p, 0)
def zlf (c : Int32) : Int32 := if c = 119 then 0 else if c = 107 then 1 else if c = 102 then 2 else if c = 114 then 3 else if c = 115 then 4 else if c = 116 then 5 else -1
def zsg (c : Int32) : Bool := decide (60 ≤ c) && decide (c ≤ 62)
def ztst (σ : Nat → Int32) (p : Nat) : Bool × Nat := if ¬ zlf (σ p) = -1 then (if zsg (σ (p + 1)) = true then ((znu σ (p + 2)).1, (znu σ (p + 2)).2.1) else (false, p + 1)) else (false, p)
/-- a test as each side keeps it -/
def zk9 (σ : Nat → Int32) (p : Nat) : Int32 := (((zlf (σ p) * 3) + (σ (p + 1) - 60)) * 100) + (znu σ (p + 2)).2.2
def zk10 (σ : Nat → Int32) (p : Nat) : Int32 := ((1000 * zlf (σ p)) + (100 * (σ (p + 1) - 60))) + (znu σ (p + 2)).2.2
/-- what is open -/
def zopn : List Int32 → Nat
  | [] => 0
  | a :: w => (if a = 33 ∨ a = 40 then 1 else 0) + zopn w
def zwh : List Int32 → List Int32 → List Int32 × List Int32
  | [], o => ([], o)
  | a :: w, o => if a = 33 then zwh w (o ++ [-33]) else (a :: w, o)
def zse (s : Int32) : List Int32 → List Int32 → List Int32 × List Int32
  | [], o => ([], o)
  | a :: w, o => if a = 38 ∨ (a = 124 ∧ ¬ s = 38) then zse s w (o ++ [-a]) else (a :: w, o)
/-- 0 wants, 1 has, 2 read, 3 not read; what waits (the newest first); the place; what is laid -/
abbrev zCf := Nat × List Int32 × Nat × List Int32
def zsW (σ : Nat → Int32) (w : List Int32) (p : Nat) (o : List Int32) : zCf := if σ p = 33 ∨ σ p = 40 then (if zopn w = 4 then (3, [], p, []) else (0, σ p :: w, p + 1, o)) else if (ztst σ p).1 = true then (1, (zwh w (o ++ [zk10 σ p])).1, (ztst σ p).2, (zwh w (o ++ [zk10 σ p])).2) else (3, [], (ztst σ p).2, [])
def zsE (σ : Nat → Int32) (p : Nat) : List Int32 → List Int32 → zCf
  | [], o => (2, [], p, o)
  | _ :: w, o => if σ p = 41 then (1, (zwh w o).1, p + 1, (zwh w o).2) else (3, [], p, [])
def zsO (σ : Nat → Int32) (w : List Int32) (p : Nat) (o : List Int32) : zCf := if σ p = 38 ∨ σ p = 124 then (0, σ p :: (zse (σ p) w o).1, p + 1, (zse (σ p) w o).2) else zsE σ p (zse 124 w o).1 (zse 124 w o).2
def zst1 (σ : Nat → Int32) (c : zCf) : zCf := if c.1 = 0 then zsW σ c.2.1 c.2.2.1 c.2.2.2 else if c.1 = 1 then zsO σ c.2.1 c.2.2.1 c.2.2.2 else c
def zyit (σ : Nat → Int32) : Nat → zCf → zCf
  | 0, c => c
  | n + 1, c => zyit σ n (zst1 σ c)
def zyR (σ : Nat → Int32) (c e : zCf) : Prop := ∃ n : Nat, zyit σ n c = e
theorem zyit_add (σ : Nat → Int32) : ∀ (n m : Nat) (c : zCf), zyit σ (n + m) c = zyit σ m (zyit σ n c)
  | 0, m, c => by rw [Nat.zero_add]; rfl
  | n + 1, m, c => by
    rw [show n + 1 + m = (n + m) + 1 by omega]
    exact zyit_add σ n m (zst1 σ c)
theorem zyR_r (σ : Nat → Int32) (c : zCf) : zyR σ c c := ⟨0, rfl⟩
theorem zyR_t {σ : Nat → Int32} {a b c : zCf} (h : zyR σ a b) (k : zyR σ b c) : zyR σ a c := by
  obtain ⟨n, h⟩ := h
  obtain ⟨m, k⟩ := k
  exact ⟨n + m, by rw [zyit_add, h, k]⟩
theorem zyR_1 {σ : Nat → Int32} {a b : zCf} (h : zst1 σ a = b) : zyR σ a b := ⟨1, h⟩
theorem zyit_fin {σ : Nat → Int32} {c : zCf} (h : 2 ≤ c.1) : ∀ n : Nat, zyit σ n c = c
  | 0 => rfl
  | n + 1 => by
    have e : zst1 σ c = c := by
      unfold zst1
      rw [if_neg (by omega), if_neg (by omega)]
    show zyit σ n (zst1 σ c) = c
    rw [e]
    exact zyit_fin h n
theorem zyR_d {σ : Nat → Int32} {c a b : zCf} (h : zyR σ c a) (k : zyR σ c b) (ha : 2 ≤ a.1) (hb : 2 ≤ b.1) : a = b := by
  obtain ⟨n, h⟩ := h
  obtain ⟨m, k⟩ := k
  have e1 : zyit σ (n + m) c = a := by rw [zyit_add, h, zyit_fin ha]
  have e2 : zyit σ (n + m) c = b := by rw [Nat.add_comm, zyit_add, k, zyit_fin hb]
  exact e1.symm.trans e2
/-- an E from here ends so: read or not, where, what is laid -/
def zyE (σ : Nat → Int32) (p : Nat) (b : Bool) (q : Nat) (L : List Int32) : Prop := zyR σ (0, [], p, []) (if b = true then (2, [], q, L) else (3, [], q, []))
theorem zyE_d {σ : Nat → Int32} {p q q2 : Nat} {b b2 : Bool} {L L2 : List Int32} (h : zyE σ p b q L) (k : zyE σ p b2 q2 L2) : b = b2 ∧ q = q2 ∧ (b = true → L = L2) := by
  unfold zyE at h k
  have e := zyR_d h k (by cases b <;> simp) (by cases b2 <;> simp)
  cases b <;> cases b2
  · simp at e
    exact ⟨rfl, e, fun z => absurd z (by decide)⟩
  · simp at e
  · simp at e
  · simp at e
    exact ⟨rfl, e.1, fun _ => e.2⟩
def zwd (σ : Nat → Int32) : List Int32 → Nat → Bool × Nat
  | [], p => (true, p)
  | c :: l, p => if σ p = c then zwd σ l (p + 1) else (false, p)
/-- how a clause begins: the word, its signs -/
def zhw (c : Int32) : Option (Nat × List Int32) := if c = 119 then some (0, [119, 101, 116, 32]) else if c = 100 then some (1, [100, 114, 121, 32]) else if c = 115 then some (2, [115, 116, 97, 105, 114, 32]) else if c = 108 then some (3, [108, 97, 115, 116, 32]) else none
/-- a clause from here ends so: read or not, where, which word, which number, what is laid -/
def zCl (σ : Nat → Int32) (p : Nat) (b : Bool) (r w : Nat) (n : Int32) (L : List Int32) : Prop :=
  match zhw (σ p) with
  | none => b = false ∧ r = p
  | some (w', l) => if (zwd σ l p).1 = false then b = false ∧ r = (zwd σ l p).2 else
    if (znu σ (zwd σ l p).2).1 = false then b = false ∧ r = (znu σ (zwd σ l p).2).2.1 else
    if 2 ≤ w' then b = true ∧ r = (znu σ (zwd σ l p).2).2.1 ∧ w = w' ∧ n = (znu σ (zwd σ l p).2).2.2 ∧ L = [] else
    if σ (znu σ (zwd σ l p).2).2.1 = 32 then zyE σ ((znu σ (zwd σ l p).2).2.1 + 1) b r L ∧ w = w' ∧ n = (znu σ (zwd σ l p).2).2.2 else b = false ∧ r = (znu σ (zwd σ l p).2).2.1
theorem zCl_d {σ : Nat → Int32} {p r r2 w w2 : Nat} {b b2 : Bool} {n n2 : Int32} {L L2 : List Int32} (h : zCl σ p b r w n L) (k : zCl σ p b2 r2 w2 n2 L2) : b = b2 ∧ r = r2 ∧ (b = true → w = w2 ∧ n = n2 ∧ L = L2) := by
  unfold zCl at h k
  split at h
  · next e => rw [e] at k; exact ⟨h.1.trans k.1.symm, h.2.trans k.2.symm, fun z => absurd (h.1.symm.trans z) (by decide)⟩
  · next w' l e =>
    rw [e] at k
    dsimp only at k
    split at h
    · next c => rw [if_pos c] at k; exact ⟨h.1.trans k.1.symm, h.2.trans k.2.symm, fun z => absurd (h.1.symm.trans z) (by decide)⟩
    · next c =>
      rw [if_neg c] at k
      split at h
      · next c2 => rw [if_pos c2] at k; exact ⟨h.1.trans k.1.symm, h.2.trans k.2.symm, fun z => absurd (h.1.symm.trans z) (by decide)⟩
      · next c2 =>
        rw [if_neg c2] at k
        split at h
        · next c3 =>
          rw [if_pos c3] at k
          obtain ⟨a1, a2, a3, a4, a5⟩ := h
          obtain ⟨b1, b2, b3, b4, b5⟩ := k
          exact ⟨a1.trans b1.symm, a2.trans b2.symm, fun _ => ⟨a3.trans b3.symm, a4.trans b4.symm, a5.trans b5.symm⟩⟩
        · next c3 =>
          rw [if_neg c3] at k
          split at h
          · next c4 =>
            rw [if_pos c4] at k
            obtain ⟨e1, e2, e3⟩ := zyE_d h.1 k.1
            exact ⟨e1, e2, fun z => ⟨h.2.1.trans k.2.1.symm, h.2.2.trans k.2.2.symm, e3 z⟩⟩
          · next c4 => rw [if_neg c4] at k; exact ⟨h.1.trans k.1.symm, h.2.trans k.2.symm, fun z => absurd (h.1.symm.trans z) (by decide)⟩
/-- a text from a clause on; T: what stands behind a ; -/
def zTXs (σ : Nat → Int32) (T : Nat → Bool → Nat → List (Nat × Int32 × List Int32) → Prop) (m : Bool) (p : Nat) (b : Bool) (q : Nat) (S : List (Nat × Int32 × List Int32)) : Prop := ∃ (c : Bool) (r w : Nat) (n : Int32) (L : List Int32), zCl σ p c r w n L ∧ (if c = false then b = false ∧ q = r else if σ r = -1 then b = true ∧ q = r ∧ S = [(w, n, L)] else if m = true ∧ σ r = 59 then ∃ S2 : List (Nat × Int32 × List Int32), T (r + 1) b q S2 ∧ S = (w, n, L) :: S2 else b = false ∧ q = r)
/-- so many clauses more are allowed behind this one -/
def zTX (σ : Nat → Int32) : Nat → Nat → Bool → Nat → List (Nat × Int32 × List Int32) → Prop
  | 0 => zTXs σ (fun _ _ _ _ => False) false
  | f + 1 => zTXs σ (zTX σ f) true
theorem zTXs_d {σ : Nat → Int32} {T : Nat → Bool → Nat → List (Nat × Int32 × List Int32) → Prop} {m : Bool} (hT : ∀ {p q q2 : Nat} {b b2 : Bool} {S S2 : List (Nat × Int32 × List Int32)}, T p b q S → T p b2 q2 S2 → b = b2 ∧ q = q2 ∧ (b = true → S = S2)) {p q q2 : Nat} {b b2 : Bool} {S S2 : List (Nat × Int32 × List Int32)} (h : zTXs σ T m p b q S) (k : zTXs σ T m p b2 q2 S2) : b = b2 ∧ q = q2 ∧ (b = true → S = S2) := by
  obtain ⟨c, r, w, n, L, h1, h2⟩ := h
  obtain ⟨c', r', w', n', L', k1, k2⟩ := k
  obtain ⟨rfl, rfl, e⟩ := zCl_d h1 k1
  split at h2
  · next u => rw [if_pos u] at k2; exact ⟨h2.1.trans k2.1.symm, h2.2.trans k2.2.symm, fun z => absurd (h2.1.symm.trans z) (by decide)⟩
  · next u =>
    rw [if_neg u] at k2
    obtain ⟨rfl, rfl, rfl⟩ := e (by simpa using u)
    split at h2
    · next u2 => rw [if_pos u2] at k2; exact ⟨h2.1.trans k2.1.symm, h2.2.1.trans k2.2.1.symm, fun _ => h2.2.2.trans k2.2.2.symm⟩
    · next u2 =>
      rw [if_neg u2] at k2
      split at h2
      · next u3 =>
        rw [if_pos u3] at k2
        obtain ⟨A, t1, t2⟩ := h2
        obtain ⟨A', t1', t2'⟩ := k2
        obtain ⟨a1, a2, a3⟩ := hT t1 t1'
        exact ⟨a1, a2, fun z => by rw [t2, t2', a3 z]⟩
      · next u3 => rw [if_neg u3] at k2; exact ⟨h2.1.trans k2.1.symm, h2.2.trans k2.2.symm, fun z => absurd (h2.1.symm.trans z) (by decide)⟩
theorem zTX_d {σ : Nat → Int32} : ∀ (f : Nat) {p q q2 : Nat} {b b2 : Bool} {S S2 : List (Nat × Int32 × List Int32)}, zTX σ f p b q S → zTX σ f p b2 q2 S2 → b = b2 ∧ q = q2 ∧ (b = true → S = S2)
  | 0, _, _, _, _, _, _, _, h, k => zTXs_d (T := fun _ _ _ _ => False) (m := false) (fun z => z.elim) h k
  | f + 1, _, _, _, _, _, _, _, h, k => zTXs_d (T := zTX σ f) (m := true) (fun x y => zTX_d f x y) h k
/-! what the steps of a clause say -/
def zcmp (s a n : Int32) : Bool := if s = 0 then decide (a < n) else if s = 1 then decide (a = n) else decide (n < a)
def zps9 (φ : Nat → Int32) (t : Int32) : Bool := if t / 300 < 0 ∨ 6 ≤ t / 300 then false else zcmp (t / 100 - t / 100 / 3 * 3) (φ (Int32.toNatClampNeg (t / 300))) (t - t / 100 * 100)
def zfa (φ : Nat → Int32) (f : Int32) : Int32 := if f = 0 then φ 0 else if f = 1 then φ 1 else if f = 2 then φ 2 else if f = 3 then φ 3 else if f = 4 then φ 4 else φ 5
def zps10 (φ : Nat → Int32) (t : Int32) : Bool := zcmp (t / 100 - t / 100 / 10 * 10) (zfa φ (t / 1000)) (t - t / 100 * 100)
def znot : List Bool → List Bool
  | a :: s => (!a) :: s
  | [] => []
def zand : List Bool → List Bool
  | a :: b :: s => (b && a) :: s
  | s => s
def zor : List Bool → List Bool
  | a :: b :: s => (b || a) :: s
  | s => s
def ze9 (φ : Nat → Int32) (t : Int32) (s : List Bool) : List Bool := if t = -1 then znot s else if t = -2 then zand s else if t = -3 then zor s else zps9 φ t :: s
def ze10 (φ : Nat → Int32) (t : Int32) (s : List Bool) : List Bool := if t = -33 then znot s else if t < 0 then (if t = -38 then zand s else zor s) else zps10 φ t :: s
def zr9 (φ : Nat → Int32) : List Int32 → List Bool → List Bool
  | [], s => s
  | t :: L, s => zr9 φ L (ze9 φ t s)
def zr10 (φ : Nat → Int32) : List Int32 → List Bool → List Bool
  | [], s => s
  | t :: L, s => zr10 φ L (ze10 φ t s)
def zwf9 (t : Int32) (s : List Bool) : Prop := s.length ≤ 30 ∧ (t = -1 → 1 ≤ s.length) ∧ ((t = -2 ∨ t = -3) → 2 ≤ s.length)
def zbd (φ : Nat → Int32) : List Int32 → List Bool → Prop
  | [], _ => True
  | t :: L, s => zwf9 t s ∧ zbd φ L (ze9 φ t s)
theorem zr9_a (φ : Nat → Int32) : ∀ (A B : List Int32) (s : List Bool), zr9 φ (A ++ B) s = zr9 φ B (zr9 φ A s)
  | [], _, _ => rfl
  | t :: A, B, s => zr9_a φ A B (ze9 φ t s)
theorem zr10_a (φ : Nat → Int32) : ∀ (A B : List Int32) (s : List Bool), zr10 φ (A ++ B) s = zr10 φ B (zr10 φ A s)
  | [], _, _ => rfl
  | t :: A, B, s => zr10_a φ A B (ze10 φ t s)
theorem zbd_a (φ : Nat → Int32) : ∀ {A B : List Int32} {s : List Bool}, zbd φ A s → zbd φ B (zr9 φ A s) → zbd φ (A ++ B) s
  | [], _, _, _, h => h
  | _ :: _, _, _, h, k => ⟨h.1, zbd_a φ h.2 k⟩
/-- both say the same, so many at most are on top meanwhile -/
def zSem (h : Nat) (L L' : List Int32) : Prop := ∀ φ : Nat → Int32, ∃ v : Bool, ∀ s : List Bool, zr9 φ L s = v :: s ∧ zr10 φ L' s = v :: s ∧ (s.length + h ≤ 30 → zbd φ L s)
theorem zSem_m {h h' : Nat} {L L' : List Int32} (k : zSem h L L') (e : h ≤ h') : zSem h' L L' := fun φ => by
  obtain ⟨v, k⟩ := k φ
  exact ⟨v, fun s => ⟨(k s).1, (k s).2.1, fun z => (k s).2.2 (by omega)⟩⟩
theorem zSem_n {h : Nat} {L L' : List Int32} (k : zSem h L L') (h1 : 1 ≤ h) : zSem h (L ++ [-1]) (L' ++ [-33]) := fun φ => by
  obtain ⟨v, k⟩ := k φ
  refine ⟨!v, fun s => ?_⟩
  obtain ⟨a, b, c⟩ := k s
  refine ⟨?_, ?_, fun z => zbd_a φ (c z) ?_⟩
  · rw [zr9_a, a]; rfl
  · rw [zr10_a, b]; rfl
  · rw [a]
    refine ⟨⟨?_, fun _ => ?_, fun u => ?_⟩, trivial⟩
    · rw [List.length_cons]; omega
    · rw [List.length_cons]; omega
    · exact absurd u (by decide)
theorem zSem_nn {h : Nat} {L L' : List Int32} (k : zSem h L L') : zSem h L (L' ++ [-33, -33]) := fun φ => by
  obtain ⟨v, k⟩ := k φ
  refine ⟨v, fun s => ?_⟩
  obtain ⟨a, b, c⟩ := k s
  refine ⟨a, ?_, c⟩
  rw [zr10_a, b]
  show (!(!v)) :: s = _
  rw [Bool.not_not]
theorem zSem_k {h : Nat} {L L' : List Int32} (k : zSem h L L') (h1 : 1 ≤ h) : ∀ n : Nat, zSem h (L ++ (if n % 2 = 1 then [-1] else [])) (L' ++ List.replicate n (-33))
  | 0 => by
    rw [if_neg (by decide), List.append_nil]
    show zSem h L (L' ++ [])
    rw [List.append_nil]
    exact k
  | 1 => zSem_n k h1
  | n + 2 => by
    have e : List.replicate (n + 2) (-33 : Int32) = List.replicate n (-33) ++ [-33, -33] := by
      rw [show [(-33 : Int32), -33] = List.replicate 2 (-33) from rfl, List.replicate_append_replicate]
    rw [show (n + 2) % 2 = n % 2 by omega, e, ← List.append_assoc]
    exact zSem_nn (zSem_k k h1 n)
theorem zSem_a {h h1 h2 : Nat} {A A' B B' : List Int32} (k : zSem h1 A A') (j : zSem h2 B B') (e1 : h1 ≤ h) (e2 : h2 + 1 ≤ h) (e3 : 2 ≤ h) : zSem h (A ++ B ++ [-2]) (A' ++ B' ++ [-38]) := fun φ => by
  obtain ⟨v, k⟩ := k φ
  obtain ⟨u, j⟩ := j φ
  refine ⟨v && u, fun s => ?_⟩
  obtain ⟨a, b, c⟩ := k s
  obtain ⟨a2, b2, c2⟩ := j (v :: s)
  refine ⟨?_, ?_, fun z => zbd_a φ (zbd_a φ (c (by omega)) ?_) ?_⟩
  · rw [zr9_a, zr9_a, a, a2]; rfl
  · rw [zr10_a, zr10_a, b, b2]; rfl
  · rw [a]
    exact c2 (by rw [List.length_cons]; omega)
  · rw [zr9_a, a, a2]
    refine ⟨⟨?_, fun u => absurd u (by decide), fun _ => ?_⟩, trivial⟩
    · rw [List.length_cons, List.length_cons]; omega
    · rw [List.length_cons, List.length_cons]; omega
theorem zSem_o {h h1 h2 : Nat} {A A' B B' : List Int32} (k : zSem h1 A A') (j : zSem h2 B B') (e1 : h1 ≤ h) (e2 : h2 + 1 ≤ h) (e3 : 2 ≤ h) : zSem h (A ++ B ++ [-3]) (A' ++ B' ++ [-124]) := fun φ => by
  obtain ⟨v, k⟩ := k φ
  obtain ⟨u, j⟩ := j φ
  refine ⟨v || u, fun s => ?_⟩
  obtain ⟨a, b, c⟩ := k s
  obtain ⟨a2, b2, c2⟩ := j (v :: s)
  refine ⟨?_, ?_, fun z => zbd_a φ (zbd_a φ (c (by omega)) ?_) ?_⟩
  · rw [zr9_a, zr9_a, a, a2]; rfl
  · rw [zr10_a, zr10_a, b, b2]; rfl
  · rw [a]
    exact c2 (by rw [List.length_cons]; omega)
  · rw [zr9_a, a, a2]
    refine ⟨⟨?_, fun u => absurd u (by decide), fun _ => ?_⟩, trivial⟩
    · rw [List.length_cons, List.length_cons]; omega
    · rw [List.length_cons, List.length_cons]; omega
theorem ztk9 : ∀ l, l < 6 → ∀ s, s < 3 → ∀ n, n < 100 → let t := ((((nI l) * 3) + nI s) * 100) + nI n; (0 ≤ t ∧ t / 300 = nI l ∧ t / 100 - t / 100 / 3 * 3 = nI s ∧ t - t / 100 * 100 = nI n) := by decide +kernel
theorem ztk10 : ∀ l, l < 6 → ∀ s, s < 3 → ∀ n, n < 100 → let t := ((1000 * (nI l)) + (100 * nI s)) + nI n; (0 ≤ t ∧ t / 1000 = nI l ∧ t / 100 - t / 100 / 10 * 10 = nI s ∧ t - t / 100 * 100 = nI n) := by decide +kernel
theorem zn6 : ∀ l, l < 6 → ¬ (nI l < 0 ∨ 6 ≤ nI l) ∧ Int32.toNatClampNeg (nI l) = l := by decide
theorem zSem_t {h l s n : Nat} (hl : l < 6) (hs : s < 3) (hn : n < 100) (h1 : 1 ≤ h) : zSem h [((((nI l) * 3) + nI s) * 100) + nI n] [((1000 * (nI l)) + (100 * nI s)) + nI n] := fun φ => by
  obtain ⟨a0, a1, a2, a3⟩ := ztk9 l hl s hs n hn
  obtain ⟨b0, b1, b2, b3⟩ := ztk10 l hl s hs n hn
  generalize ((((nI l) * 3) + nI s) * 100) + nI n = t at *
  generalize ((1000 * (nI l)) + (100 * nI s)) + nI n = t' at *
  have u0 : (0 : Int32).toInt = 0 := by decide
  have n1 : (-1 : Int32).toInt = -1 := by decide
  have n2 : (-2 : Int32).toInt = -2 := by decide
  have n3 : (-3 : Int32).toInt = -3 := by decide
  have n33 : (-33 : Int32).toInt = -33 := by decide
  rw [zi_le, u0] at a0 b0
  have c1 : ¬ t = -1 := by rw [zi_eq, n1]; omega
  have c2 : ¬ t = -2 := by rw [zi_eq, n2]; omega
  have c3 : ¬ t = -3 := by rw [zi_eq, n3]; omega
  have c4 : ¬ t' = -33 := by rw [zi_eq, n33]; omega
  have c5 : ¬ t' < 0 := by rw [zi_lt, u0]; omega
  have d : zps9 φ t = zps10 φ t' := by
    obtain ⟨g1, g2⟩ := zn6 l hl
    unfold zps9 zps10
    rw [a1, a2, a3, b1, b2, b3, if_neg g1, g2]
    congr 1
    have hl2 : l = 0 ∨ l = 1 ∨ l = 2 ∨ l = 3 ∨ l = 4 ∨ l = 5 := by omega
    rcases hl2 with rfl | rfl | rfl | rfl | rfl | rfl <;> rfl
  refine ⟨zps9 φ t, fun s => ⟨?_, ?_, fun z => ⟨⟨?_, fun u => absurd u c1, fun u => u.elim (fun u => absurd u c2) (fun u => absurd u c3)⟩, trivial⟩⟩⟩
  · show ze9 φ t s = _
    unfold ze9
    rw [if_neg c1, if_neg c2, if_neg c3]
  · show ze10 φ t' s = _
    unfold ze10
    rw [if_neg c4, if_neg c5, d]
  · omega
