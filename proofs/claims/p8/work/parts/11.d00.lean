/-! panes of both sides: what is kept, copied, made new -/
def zKc (a : Nat) (M X : pvM) : Prop := ∀ i : Nat, i < 7 → (∀ f : Nat, f < 5 → X.1 (a + i) f = M.1 (a + i) f) ∧ (∀ j : Nat, j < 4 → X.1 (a + 7 + i) j = M.1 (a + 7 + i) j)
def zKm (a b : Nat) (M X : pvM) : Prop := ∀ i : Nat, i < 7 → (∀ f : Nat, f < 5 → X.1 (a + f) i = M.1 (a + f) i) ∧ (∀ j : Nat, j < 4 → X.1 b (4 * i + j) = M.1 b (4 * i + j))
def zKcx (L : List (Nat × Nat × Nat)) (a : Nat) : Bool := (List.range 7).all fun i => ((List.range 5).all fun f => !pvfp L (a + i) f) && ((List.range 4).all fun j => !pvfp L (a + 7 + i) j)
def zKmx (L : List (Nat × Nat × Nat)) (a b : Nat) : Bool := (List.range 7).all fun i => ((List.range 5).all fun f => !pvfp L (a + f) i) && ((List.range 4).all fun j => !pvfp L b (4 * i + j))
theorem zKc_fr {L : List (Nat × Nat × Nat)} {a : Nat} {M X : pvM} (hf : pvFr (pvfp L) M X) (hx : zKcx L a = true) : zKc a M X := fun i hi => by
  have h1 := List.all_eq_true.mp hx i (List.mem_range.mpr hi)
  rw [Bool.and_eq_true] at h1
  refine ⟨fun f h => hf _ _ ?_, fun j h => hf _ _ ?_⟩
  · have h2 := List.all_eq_true.mp h1.1 f (List.mem_range.mpr h)
    simpa using h2
  · have h2 := List.all_eq_true.mp h1.2 j (List.mem_range.mpr h)
    simpa using h2
theorem zKm_fr {L : List (Nat × Nat × Nat)} {a b : Nat} {M X : pvM} (hf : pvFr (pvfp L) M X) (hx : zKmx L a b = true) : zKm a b M X := fun i hi => by
  have h1 := List.all_eq_true.mp hx i (List.mem_range.mpr hi)
  rw [Bool.and_eq_true] at h1
  refine ⟨fun f h => hf _ _ ?_, fun j h => hf _ _ ?_⟩
  · have h2 := List.all_eq_true.mp h1.1 f (List.mem_range.mpr h)
    simpa using h2
  · have h2 := List.all_eq_true.mp h1.2 j (List.mem_range.mpr h)
    simpa using h2
theorem zKc_r (a : Nat) (M : pvM) : zKc a M M := fun _ _ => ⟨fun _ _ => rfl, fun _ _ => rfl⟩
theorem zKm_r (a b : Nat) (M : pvM) : zKm a b M M := fun _ _ => ⟨fun _ _ => rfl, fun _ _ => rfl⟩
theorem zKc_t {a : Nat} {M Y X : pvM} (h : zKc a M Y) (k : zKc a Y X) : zKc a M X := fun i hi => ⟨fun f hf => ((k i hi).1 f hf).trans ((h i hi).1 f hf), fun j hj => ((k i hi).2 j hj).trans ((h i hi).2 j hj)⟩
theorem zKm_t {a b : Nat} {M Y X : pvM} (h : zKm a b M Y) (k : zKm a b Y X) : zKm a b M X := fun i hi => ⟨fun f hf => ((k i hi).1 f hf).trans ((h i hi).1 f hf), fun j hj => ((k i hi).2 j hj).trans ((h i hi).2 j hj)⟩
/-- copied: the first so many panes (class), all seven (reference) -/
def zC (a b : Nat) (n : Int32) (M X : pvM) : Prop := ∀ i : Nat, i < 7 → (i : Int) < n.toInt → (∀ f : Nat, f < 5 → X.1 (a + i) f = M.1 (b + i) f) ∧ (∀ j : Nat, j < 4 → X.1 (a + 7 + i) j = M.1 (b + 7 + i) j)
def zD (a a2 b b2 : Nat) (M X : pvM) : Prop := ∀ i : Nat, i < 7 → (∀ f : Nat, f < 5 → X.1 (a + f) i = M.1 (b + f) i) ∧ (∀ j : Nat, j < 4 → X.1 a2 (4 * i + j) = M.1 b2 (4 * i + j))
theorem zC_k {a b : Nat} {n : Int32} {M Y X : pvM} (h : zC a b n M Y) (k : zKc a Y X) : zC a b n M X := fun i hi hn => ⟨fun f hf => ((k i hi).1 f hf).trans ((h i hi hn).1 f hf), fun j hj => ((k i hi).2 j hj).trans ((h i hi hn).2 j hj)⟩
/-- a window is made, or nothing is done -/
def zW9 (n1 n2 n3 n4 n5 : Int32) (M X : pvM) : Prop := (X.1 8 1 = M.1 8 1 ∧ zKc 60 M X) ∨ ∃ c : Nat, c < 7 ∧ (M.1 8 1).toInt = (c : Int) ∧ (X.1 8 1).toInt = (c : Int) + 1 ∧ (∀ i : Nat, i < 7 → i ≠ c → (∀ f : Nat, f < 5 → X.1 (60 + i) f = M.1 (60 + i) f) ∧ (∀ j : Nat, j < 4 → X.1 (60 + 7 + i) j = M.1 (60 + 7 + i) j)) ∧ (X.1 (60 + c) 0 = n1 ∧ X.1 (60 + c) 1 = n2 ∧ X.1 (60 + c) 2 = n3 ∧ X.1 (60 + c) 3 = n4 ∧ X.1 (60 + c) 4 = n5) ∧ (∀ j : Nat, j < 4 → X.1 (60 + 7 + c) j = 0)
def zW10 (n1 n2 n3 n4 n5 : Int32) (M X : pvM) : Prop := (X.1 124 0 = M.1 124 0 ∧ zKm 125 130 M X) ∨ ∃ c : Nat, c < 7 ∧ (M.1 124 0).toInt = (c : Int) ∧ (X.1 124 0).toInt = (c : Int) + 1 ∧ (∀ i : Nat, i < 7 → i ≠ c → (∀ f : Nat, f < 5 → X.1 (125 + f) i = M.1 (125 + f) i) ∧ (∀ j : Nat, j < 4 → X.1 130 (4 * i + j) = M.1 130 (4 * i + j))) ∧ (X.1 (125 + 0) c = n1 ∧ X.1 (125 + 1) c = n2 ∧ X.1 (125 + 2) c = n3 ∧ X.1 (125 + 3) c = n4 ∧ X.1 (125 + 4) c = n5) ∧ (∀ j : Nat, j < 4 → X.1 130 (4 * c + j) = 0)
def zU9 (M X : pvM) : Prop := (M.1 0 5 = 0 ∧ zKc 60 M X) ∨ (¬ M.1 0 5 = 0 ∧ zC 60 74 (M.1 9 1) M X)
def zU10 (M X : pvM) : Prop := (M.1 124 46 = 0 ∧ zKm 125 130 M X) ∨ (¬ M.1 124 46 = 0 ∧ zD 125 130 151 156 M X)
/-- what both sides say alike of the panes, and of the image's -/
def zP1 (M : pvM) : Prop := ∀ i : Nat, i < 7 → (i : Int) < (M.1 8 1).toInt → (∀ f : Nat, f < 5 → M.1 (60 + i) f = M.1 (125 + f) i) ∧ (∀ j : Nat, j < 4 → M.1 (60 + 7 + i) j = M.1 130 (4 * i + j))
def zP2 (M : pvM) : Prop := ∀ i : Nat, i < 7 → (i : Int) < (M.1 9 1).toInt → (∀ f : Nat, f < 5 → M.1 (74 + i) f = M.1 (151 + f) i) ∧ (∀ j : Nat, j < 4 → M.1 (74 + 7 + i) j = M.1 156 (4 * i + j))
theorem zP1_k {M X : pvM} (h : zP1 M) (w : X.1 8 1 = M.1 8 1) (k1 : zKc 60 M X) (k3 : zKm 125 130 M X) : zP1 X := fun i hi hn => by
  rw [w] at hn
  obtain ⟨a, b⟩ := h i hi hn
  exact ⟨fun f hf => by rw [(k1 i hi).1 f hf, (k3 i hi).1 f hf]; exact a f hf, fun j hj => by rw [(k1 i hi).2 j hj, (k3 i hi).2 j hj]; exact b j hj⟩
theorem zP2_k {M X : pvM} (h : zP2 M) (w : X.1 9 1 = M.1 9 1) (k2 : zKc 74 M X) (k4 : zKm 151 156 M X) : zP2 X := fun i hi hn => by
  rw [w] at hn
  obtain ⟨a, b⟩ := h i hi hn
  exact ⟨fun f hf => by rw [(k2 i hi).1 f hf, (k4 i hi).1 f hf]; exact a f hf, fun j hj => by rw [(k2 i hi).2 j hj, (k4 i hi).2 j hj]; exact b j hj⟩
theorem zP1_w {n1 n2 n3 n4 n5 : Int32} {M Y X : pvM} (h : zP1 M) (hw : M.1 8 1 = M.1 124 0) (g9 : zW9 n1 n2 n3 n4 n5 M Y) (k3 : zKm 125 130 M Y) (wY : Y.1 124 0 = M.1 124 0) (g10 : zW10 n1 n2 n3 n4 n5 Y X) (k1 : zKc 60 Y X) (wX : X.1 8 1 = Y.1 8 1) (hX : X.1 8 1 = X.1 124 0) : zP1 X := by
  have e0 : (M.1 8 1).toInt = (Y.1 124 0).toInt := by rw [hw, wY]
  have e1 : (X.1 124 0).toInt = (Y.1 8 1).toInt := by rw [← hX, wX]
  rcases g9 with ⟨a, b⟩ | ⟨c, c7, cM, cY, same, ⟨v0, v1, v2, v3, v4⟩, rw0⟩
  · rcases g10 with ⟨a2, b2⟩ | ⟨d, d7, dY, dX, -, -, -⟩
    · exact zP1_k h (wX.trans a) (zKc_t b k1) (zKm_t k3 b2)
    · have e2 := congrArg Int32.toInt a
      omega
  · rcases g10 with ⟨a2, b2⟩ | ⟨d, d7, dY, dX, same2, ⟨u0, u1, u2, u3, u4⟩, rw2⟩
    · have e2 := congrArg Int32.toInt a2
      omega
    · have cd : d = c := by omega
      subst cd
      intro i hi hn
      rw [wX] at hn
      by_cases q : i = d
      · subst q
        refine ⟨fun f hf => ?_, fun j hj => ?_⟩
        · rw [(k1 i hi).1 f hf]
          match f, hf with
          | 0, _ => exact v0.trans u0.symm
          | 1, _ => exact v1.trans u1.symm
          | 2, _ => exact v2.trans u2.symm
          | 3, _ => exact v3.trans u3.symm
          | 4, _ => exact v4.trans u4.symm
          | f + 5, z => omega
        · rw [(k1 i hi).2 j hj, rw0 j hj, rw2 j hj]
      · obtain ⟨a, b⟩ := h i hi (by omega)
        refine ⟨fun f hf => ?_, fun j hj => ?_⟩
        · rw [(k1 i hi).1 f hf, (same i hi q).1 f hf, (same2 i hi q).1 f hf, (k3 i hi).1 f hf]
          exact a f hf
        · rw [(k1 i hi).2 j hj, (same i hi q).2 j hj, (same2 i hi q).2 j hj, (k3 i hi).2 j hj]
          exact b j hj
theorem zP2_i {M Y X : pvM} (h : zP1 M) (g9 : zC 74 60 (M.1 8 1) M Y) (k3 : zKm 125 130 M Y) (g10 : zD 151 156 125 130 Y X) (k2 : zKc 74 Y X) (w : X.1 9 1 = M.1 8 1) : zP2 X := fun i hi hn => by
  rw [w] at hn
  obtain ⟨a, b⟩ := h i hi hn
  refine ⟨fun f hf => ?_, fun j hj => ?_⟩
  · rw [(k2 i hi).1 f hf, (g9 i hi hn).1 f hf, (g10 i hi).1 f hf, (k3 i hi).1 f hf]
    exact a f hf
  · rw [(k2 i hi).2 j hj, (g9 i hi hn).2 j hj, (g10 i hi).2 j hj, (k3 i hi).2 j hj]
    exact b j hj
theorem zP1_u {M Y X : pvM} (h : zP1 M) (h2 : zP2 M) (e : M.1 0 5 = M.1 124 46) (g9 : zU9 M Y) (k3 : zKm 125 130 M Y) (k4 : zKm 151 156 M Y) (eY : Y.1 124 46 = M.1 124 46) (g10 : zU10 Y X) (k1 : zKc 60 Y X) (w : X.1 8 1 = if M.1 0 5 = 0 then M.1 8 1 else M.1 9 1) : zP1 X := by
  rcases g9 with ⟨a, b⟩ | ⟨a, b⟩
  · rw [if_pos a] at w
    rcases g10 with ⟨a2, b2⟩ | ⟨a2, -⟩
    · exact zP1_k h w (zKc_t b k1) (zKm_t k3 b2)
    · exact absurd (eY.trans (e.symm.trans a)) a2
  · rw [if_neg a] at w
    rcases g10 with ⟨a2, -⟩ | ⟨a2, b2⟩
    · exact absurd (e.trans (eY.symm.trans a2)) a
    · intro i hi hn
      rw [w] at hn
      obtain ⟨x, y⟩ := h2 i hi hn
      refine ⟨fun f hf => ?_, fun j hj => ?_⟩
      · rw [(k1 i hi).1 f hf, (b i hi hn).1 f hf, (b2 i hi).1 f hf, (k4 i hi).1 f hf]
        exact x f hf
      · rw [(k1 i hi).2 j hj, (b i hi hn).2 j hj, (b2 i hi).2 j hj, (k4 i hi).2 j hj]
        exact y j hj
/-- a row's number is written, or nothing is done -/
def zV9 (n1 n2 n3 : Int32) (r : Option pvV) (M X : pvM) : Prop := ∃ x : Int32, r = some (pvI x) ∧ ((x.toInt < 0 ∧ zKc 60 M X) ∨ (0 ≤ x.toInt ∧ ∀ i : Nat, i < 7 → (∀ f : Nat, f < 5 → X.1 (60 + i) f = M.1 (60 + i) f) ∧ (∀ j : Nat, j < 4 → X.1 (60 + 7 + i) j = if i = Int32.toNatClampNeg n1 ∧ j = Int32.toNatClampNeg n2 then n3 else M.1 (60 + 7 + i) j)))
def zV10 (n1 n2 n3 : Int32) (r : Option pvV) (M X : pvM) : Prop := ∃ x : Int32, r = some (pvI x) ∧ ((x.toInt < 0 ∧ zKm 125 130 M X) ∨ (0 ≤ x.toInt ∧ ∀ i : Nat, i < 7 → (∀ f : Nat, f < 5 → X.1 (125 + f) i = M.1 (125 + f) i) ∧ (∀ j : Nat, j < 4 → X.1 130 (4 * i + j) = if i = Int32.toNatClampNeg n1 ∧ j = Int32.toNatClampNeg n2 then n3 else M.1 130 (4 * i + j))))
theorem zP1_v {n1 n2 n3 r r2 : Int32} {M Y X : pvM} (h : zP1 M) (er : r = r2) (g9 : zV9 n1 n2 n3 (some (pvI r)) M Y) (k3 : zKm 125 130 M Y) (g10 : zV10 n1 n2 n3 (some (pvI r2)) Y X) (k1 : zKc 60 Y X) (w : X.1 8 1 = M.1 8 1) : zP1 X := by
  subst er
  obtain ⟨x9, e9, g9⟩ := g9
  obtain ⟨x10, e10, g10⟩ := g10
  have q9 : r = x9 := Sum.inl.inj (Option.some.inj e9)
  have q10 : r = x10 := Sum.inl.inj (Option.some.inj e10)
  subst q9
  subst q10
  rcases g9 with ⟨a, b⟩ | ⟨a, b⟩
  · rcases g10 with ⟨a2, b2⟩ | ⟨a2, -⟩
    · exact zP1_k h w (zKc_t b k1) (zKm_t k3 b2)
    · omega
  · rcases g10 with ⟨a2, -⟩ | ⟨a2, b2⟩
    · omega
    · intro i hi hn
      rw [w] at hn
      obtain ⟨x, y⟩ := h i hi hn
      refine ⟨fun f hf => ?_, fun j hj => ?_⟩
      · rw [(k1 i hi).1 f hf, (b i hi).1 f hf, (b2 i hi).1 f hf, (k3 i hi).1 f hf]
        exact x f hf
      · rw [(k1 i hi).2 j hj, (b i hi).2 j hj, (b2 i hi).2 j hj, (k3 i hi).2 j hj, y j hj]
theorem zrow9 {M X : pvM} {b : Nat} {n1 n2 n3 : Int32} (hb : b = 60) (e : X = pvu M (b + Int32.toNatClampNeg n1 + 7) (Int32.toNatClampNeg n2) n3) (i j : Nat) : X.1 (60 + 7 + i) j = if i = Int32.toNatClampNeg n1 ∧ j = Int32.toNatClampNeg n2 then n3 else M.1 (60 + 7 + i) j := by
  have u : b + Int32.toNatClampNeg n1 + 7 = 60 + 7 + Int32.toNatClampNeg n1 := by omega
  by_cases h : i = Int32.toNatClampNeg n1 ∧ j = Int32.toNatClampNeg n2
  · rw [if_pos h, h.1, h.2, ← u]
    exact pvu_s e
  · rw [if_neg h]
    exact pvu_n e _ _ (by omega)
theorem zrow10 {M X : pvM} {n1 n2 n3 : Int32} (h1 : 0 ≤ n1.toInt ∧ n1.toInt ≤ 6) (h2 : 0 ≤ n2.toInt ∧ n2.toInt ≤ 3) (e : X = pvu M 130 (Int32.toNatClampNeg ((4 * n1) + n2)) n3) (i j : Nat) (hj : j < 4) : X.1 130 (4 * i + j) = if i = Int32.toNatClampNeg n1 ∧ j = Int32.toNatClampNeg n2 then n3 else M.1 130 (4 * i + j) := by
  have u4 : (4 : Int32).toInt = 4 := by decide
  have a1 : (4 * n1).toInt = 4 * n1.toInt := by rw [zmul 4 n1 (by rw [u4]; omega) (by rw [u4]; omega), u4]
  have u : Int32.toNatClampNeg ((4 * n1) + n2) = 4 * Int32.toNatClampNeg n1 + Int32.toNatClampNeg n2 := by
    show ((4 * n1) + n2).toInt.toNat = 4 * n1.toInt.toNat + n2.toInt.toNat
    rw [zadd (4 * n1) n2 (by omega) (by omega), a1]
    omega
  have p : Int32.toNatClampNeg n2 < 4 := by
    show n2.toInt.toNat < 4
    omega
  rw [u] at e
  by_cases h : i = Int32.toNatClampNeg n1 ∧ j = Int32.toNatClampNeg n2
  · rw [if_pos h, h.1, h.2]
    exact pvu_s e
  · rw [if_neg h]
    exact pvu_n e _ _ (Or.inr (by omega))
theorem zk4 {n1 n2 : Int32} (h1 : 0 ≤ n1.toInt ∧ n1.toInt ≤ 6) (h2 : 0 ≤ n2.toInt ∧ n2.toInt ≤ 3) : Int32.toNatClampNeg ((4 * n1) + n2) = 4 * Int32.toNatClampNeg n1 + Int32.toNatClampNeg n2 := by
  have u4 : (4 : Int32).toInt = 4 := by decide
  have a1 : (4 * n1).toInt = 4 * n1.toInt := by rw [zmul 4 n1 (by rw [u4]; omega) (by rw [u4]; omega), u4]
  show ((4 * n1) + n2).toInt.toNat = 4 * n1.toInt.toNat + n2.toInt.toNat
  rw [zadd (4 * n1) n2 (by omega) (by omega), a1]
  omega
