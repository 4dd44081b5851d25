/-! panes of both sides: what is kept, copied, made new -/
def zKc (a : Nat) (M X : pvM) : Prop := ∀ i : Nat, i < 7 → (∀ f : Nat, f < 5 → X.1 (a + i) f = M.1 (a + i) f) ∧ (∀ j : Nat, j < 4 → X.1 (a + 7 + i) j = M.1 (a + 7 + i) j)
def zKm (a b : Nat) (M X : pvM) : Prop := ∀ i : Nat, i < 7 → (∀ f : Nat, f < 5 → X.1 (a + f) i = M.1 (a + f) i) ∧ (∀ j : Nat, j < 4 → X.1 b (4 * i + j) = M.1 b (4 * i + j))
def zKcx (L : List (Nat × Nat × Nat)) (a : Nat) : Bool := (List.range 7).all fun i => ((List.range 5).all fun f => !pvfp L (a + i) f) && ((List.range 4).all fun j => !pvfp L (a + 7 + i) j)
def zKmx (L : List (Nat × Nat × Nat)) (a b : Nat) : Bool := (List.range 7).all fun i => ((List.range 5).all fun f => !pvfp L (a + f) i) && ((List.range 4).all fun j => !pvfp L b (4 * i + j))
theorem zKc_fr {L : List (Nat × Nat × Nat)} {a : Nat} {M X : pvM} (hf : pvFr (pvfp L) M X) (hx : zKcx L a = true) : zKc a M X := fun i hi => by
  have h1 := List.all_eq_true.mp hx i (List.mem_range.mpr hi)
  rw [Bool.and_eq_true] at h1
  refine ⟨fun f h => hf _ _ ?_, fun j h => hf _ _ ?_⟩
  · have h2 := List.all_eq_true.mp h1.1 f (List.mem_range.mpr h)
    simpa using h2
  · have h2 := List.all_eq_true.mp h1.2 j (List.mem_range.mpr h)
    simpa using h2
theorem zKm_fr {L : List (Nat × Nat × Nat)} {a b : Nat} {M X : pvM} (hf : pvFr (pvfp L) M X) (hx : zKmx L a b = true) : zKm a b M X := fun i hi => by
  have h1 := List.all_eq_true.mp hx i (List.mem_range.mpr hi)
  rw [Bool.and_eq_true] at h1
  refine ⟨fun f h => hf _ _ ?_, fun j h => hf _ _ ?_⟩
  · have h2 := List.all_eq_true.mp h1.1 f (List.mem_range.mpr h)
    simpa using h2
  · have h2 := List.all_eq_true.mp h1.2 j (List.mem_range.mpr h)
    simpa using h2
theorem zKc_r (a : Nat) (M : pvM) : zKc a M M := fun _ _ => ⟨fun _ _ => rfl, fun _ _ => rfl⟩
theorem zKm_r (a b : Nat) (M : pvM) : zKm a b M M := fun _ _ => ⟨fun _ _ => rfl, fun _ _ => rfl⟩
theorem zKc_t {a : Nat} {M Y X : pvM} (h : zKc a M Y) (k : zKc a Y X) : zKc a M X := fun i hi => ⟨fun f hf => ((k i hi).1 f hf).trans ((h i hi).1 f hf), fun j hj => ((k i hi).2 j hj).trans ((h i hi).2 j hj)⟩
theorem zKm_t {a b : Nat} {M Y X : pvM} (h : zKm a b M Y) (k : zKm a b Y X) : zKm a b M X := fun i hi => ⟨fun f hf => ((k i hi).1 f hf).trans ((h i hi).1 f hf), fun j hj => ((k i hi).2 j hj).trans ((h i hi).2 j hj)⟩
/-- copied: the first so many panes (class), all seven (reference) -/
def zC (a b : Nat) (n : Int32) (M X : pvM) : Prop := ∀ i : Nat, i < 7 → (i : Int) < n.toInt → (∀ f : Nat, f < 5 → X.1 (a + i) f = M.1 (b + i) f) ∧ (∀ j : Nat, j < 4 → X.1 (a + 7 + i) j = M.1 (b + 7 + i) j)
def zD (a a2 b b2 : Nat) (M X : pvM) : Prop := ∀ i : Nat, i < 7 → (∀ f : Nat, f < 5 → X.1 (a + f) i = M.1 (b + f) i) ∧ (∀ j : Nat, j < 4 → X.1 a2 (4 * i + j) = M.1 b2 (4 * i + j))
theorem zC_k {a b : Nat} {n : Int32} {M Y X : pvM} (h : zC a b n M Y) (k : zKc a Y X) : zC a b n M X := fun i hi hn => ⟨fun f hf => ((k i hi).1 f hf).trans ((h i hi hn).1 f hf), fun j hj => ((k i hi).2 j hj).trans ((h i hi hn).2 j hj)⟩
/-- a window is made, or nothing is done -/
def zW9 (n1 n2 n3 n4 n5 : Int32) (M X : pvM) : Prop := (X.1 8 1 = M.1 8 1 ∧ zKc 60 M X) ∨ ∃ c : Nat, c < 7 ∧ (M.1 8 1).toInt = (c : Int) ∧ (X.1 8 1).toInt = (c : Int) + 1 ∧ (∀ i : Nat, i < 7 → i ≠ c → (∀ f : Nat, f < 5 → X.1 (60 + i) f = M.1 (60 + i) f) ∧ (∀ j : Nat, j < 4 → X.1 (60 + 7 + i) j = M.1 (60 + 7 + i) j)) ∧ (X.1 (60 + c) 0 = n1 ∧ X.1 (60 + c) 1 = n2 ∧ X.1 (60 + c) 2 = n3 ∧ X.1 (60 + c) 3 = n4 ∧ X.1 (60 + c) 4 = n5) ∧ (∀ j : Nat, j < 4 → X.1 (60 + 7 + c) j = 0)
def zW10 (n1 n2 n3 n4 n5 : Int32) (M X : pvM) : Prop := (X.1 124 0 = M.1 124 0 ∧ zKm 125 130 M X) ∨ ∃ c : Nat, c < 7 ∧ (M.1 124 0).toInt = (c : Int) ∧ (X.1 124 0).toInt = (c : Int) + 1 ∧ (∀ i : Nat, i < 7 → i ≠ c → (∀ f : Nat, f < 5 → X.1 (125 + f) i = M.1 (125 + f) i) ∧ (∀ j : Nat, j < 4 → X.1 130 (4 * i + j) = M.1 130 (4 * i + j))) ∧ (X.1 (125 + 0) c = n1 ∧ X.1 (125 + 1) c = n2 ∧ X.1 (125 + 2) c = n3 ∧ X.1 (125 + 3) c = n4 ∧ X.1 (125 + 4) c = n5) ∧ (∀ j : Nat, j < 4 → X.1 130 (4 * c + j) = 0)
def zU9 (M X : pvM) : Prop := (M.1 0 5 = 0 ∧ zKc 60 M X) ∨ (¬ M.1 0 5 = 0 ∧ zC 60 74 (M.1 9 1) M X)
def zU10 (M X : pvM) : Prop := (M.1 124 46 = 0 ∧ zKm 125 130 M X) ∨ (¬ M.1 124 46 = 0 ∧ zD 125 130 151 156 M X)
/-- what both sides say alike of the panes, and of the image's -/
def zP1 (M : pvM) : Prop := ∀ i : Nat, i < 7 → (i : Int) < (M.1 8 1).toInt → (∀ f : Nat, f < 5 → M.1 (60 + i) f = M.1 (125 + f) i) ∧ (∀ j : Nat, j < 4 → M.1 (60 + 7 + i) j = M.1 130 (4 * i + j))
def zP2 (M : pvM) : Prop := ∀ i : Nat, i < 7 → (i : Int) < (M.1 9 1).toInt → (∀ f : Nat, f < 5 → M.1 (74 + i) f = M.1 (151 + f) i) ∧ (∀ j : Nat, j < 4 → M.1 (74 + 7 + i) j = M.1 156 (4 * i + j))
theorem zP1_k {M X : pvM} (h : zP1 M) (w : X.1 8 1 = M.1 8 1) (k1 : zKc 60 M X) (k3 : zKm 125 130 M X) : zP1 X := fun i hi hn => by
  rw [w] at hn
  obtain ⟨a, b⟩ := h i hi hn
  exact ⟨fun f hf => by rw [(k1 i hi).1 f hf, (k3 i hi).1 f hf]; exact a f hf, fun j hj => by rw [(k1 i hi).2 j hj, (k3 i hi).2 j hj]; exact b j hj⟩
theorem zP2_k {M X : pvM} (h : zP2 M) (w : X.1 9 1 = M.1 9 1) (k2 : zKc 74 M X) (k4 : zKm 151 156 M X) : zP2 X := fun i hi hn => by
  rw [w] at hn
  obtain ⟨a, b⟩ := h i hi hn
  exact ⟨fun f hf => by rw [(k2 i hi).1 f hf, (k4 i hi).1 f hf]; exact a f hf, fun j hj => by rw [(k2 i hi).2 j hj, (k4 i hi).2 j hj]; exact b j hj⟩
theorem zP1_w {n1 n2 n3 n4 n5 : Int32} {M Y X : pvM} (h : zP1 M) (hw : M.1 8 1 = M.1 124 0) (g9 : zW9 n1 n2 n3 n4 n5 M Y) (k3 : zKm 125 130 M Y) (wY : Y.1 124 0 = M.1 124 0) (g10 : zW10 n1 n2 n3 n4 n5 Y X) (k1 : zKc 60 Y X) (wX : X.1 8 1 = Y.1 8 1) (hX : X.1 8 1 = X.1 124 0) : zP1 X := by
  have e0 : (M.1 8 1).toInt = (Y.1 124 0).toInt := by rw [hw, wY]
  have e1 : (X.1 124 0).toInt = (Y.1 8 1).toInt := by rw [← hX, wX]
  rcases g9 with ⟨a, b⟩ | ⟨c, c7, cM, cY, same, ⟨v0, v1, v2, v3, v4⟩, rw0⟩
  · rcases g10 with ⟨a2, b2⟩ | ⟨d, d7, dY, dX, -, -, -⟩
    · exact zP1_k h (wX.trans a) (zKc_t b k1) (zKm_t k3 b2)
    · have e2 := congrArg Int32.toInt a
      omega
  · rcases g10 with ⟨a2, b2⟩ | ⟨d, d7, dY, dX, same2, ⟨u0, u1, u2, u3, u4⟩, rw2⟩
    · have e2 := congrArg Int32.toInt a2
      omega
    · have cd : d = c := by omega
      subst cd
      intro i hi hn
      rw [wX] at hn
      by_cases q : i = d
      · subst q
        refine ⟨fun f hf => ?_, fun j hj => ?_⟩
        · rw [(k1 i hi).1 f hf]
          match f, hf with
          | 0, _ => exact v0.trans u0.symm
          | 1, _ => exact v1.trans u1.symm
          | 2, _ => exact v2.trans u2.symm
          | 3, _ => exact v3.trans u3.symm
          | 4, _ => exact v4.trans u4.symm
          | f + 5, z => omega
        · rw [(k1 i hi).2 j hj, rw0 j hj, rw2 j hj]
      · obtain ⟨a, b⟩ := h i hi (by omega)
        refine ⟨fun f hf => ?_, fun j hj => ?_⟩
        · rw [(k1 i hi).1 f hf, (same i hi q).1 f hf, (same2 i hi q).1 f hf, (k3 i hi).1 f hf]
          exact a f hf
        · rw [(k1 i hi).2 j hj, (same i hi q).2 j hj, (same2 i hi q).2 j hj, (k3 i hi).2 j hj]
          exact b j hj
theorem zP2_i {M Y X : pvM} (h : zP1 M) (g9 : zC 74 60 (M.1 8 1) M Y) (k3 : zKm 125 130 M Y) (g10 : zD 151 156 125 130 Y X) (k2 : zKc 74 Y X) (w : X.1 9 1 = M.1 8 1) : zP2 X := fun i hi hn => by
  rw [w] at hn
  obtain ⟨a, b⟩ := h i hi hn
  refine ⟨fun f hf => ?_, fun j hj => ?_⟩
  · rw [(k2 i hi).1 f hf, (g9 i hi hn).1 f hf, (g10 i hi).1 f hf, (k3 i hi).1 f hf]
    exact a f hf
  · rw [(k2 i hi).2 j hj, (g9 i hi hn).2 j hj, (g10 i hi).2 j hj, (k3 i hi).2 j hj]
    exact b j hj
theorem zP1_u {M Y X : pvM} (h : zP1 M) (h2 : zP2 M) (e : M.1 0 5 = M.1 124 46) (g9 : zU9 M Y) (k3 : zKm 125 130 M Y) (k4 : zKm 151 156 M Y) (eY : Y.1 124 46 = M.1 124 46) (g10 : zU10 Y X) (k1 : zKc 60 Y X) (w : X.1 8 1 = if M.1 0 5 = 0 then M.1 8 1 else M.1 9 1) : zP1 X := by
  rcases g9 with ⟨a, b⟩ | ⟨a, b⟩
  · rw [if_pos a] at w
    rcases g10 with ⟨a2, b2⟩ | ⟨a2, -⟩
    · exact zP1_k h w (zKc_t b k1) (zKm_t k3 b2)
    · exact absurd (eY.trans (e.symm.trans a)) a2
  · rw [if_neg a] at w
    rcases g10 with ⟨a2, -⟩ | ⟨a2, b2⟩
    · exact absurd (e.trans (eY.symm.trans a2)) a
    · intro i hi hn
      rw [w] at hn
      obtain ⟨x, y⟩ := h2 i hi hn
      refine ⟨fun f hf => ?_, fun j hj => ?_⟩
      · rw [(k1 i hi).1 f hf, (b i hi hn).1 f hf, (b2 i hi).1 f hf, (k4 i hi).1 f hf]
        exact x f hf
      · rw [(k1 i hi).2 j hj, (b i hi hn).2 j hj, (b2 i hi).2 j hj, (k4 i hi).2 j hj]
        exact y j hj
/-- a row's number is written, or nothing is done -/
def zV9 (n1 n2 n3 : Int32) (r : Option pvV) (M X : pvM) : Prop := ∃ x : Int32, r = some (pvI x) ∧ ((x.toInt < 0 ∧ zKc 60 M X) ∨ (0 ≤ x.toInt ∧ ∀ i : Nat, i < 7 → (∀ f : Nat, f < 5 → X.1 (60 + i) f = M.1 (60 + i) f) ∧ (∀ j : Nat, j < 4 → X.1 (60 + 7 + i) j = if i = Int32.toNatClampNeg n1 ∧ j = Int32.toNatClampNeg n2 then n3 else M.1 (60 + 7 + i) j)))
def zV10 (n1 n2 n3 : Int32) (r : Option pvV) (M X : pvM) : Prop := ∃ x : Int32, r = some (pvI x) ∧ ((x.toInt < 0 ∧ zKm 125 130 M X) ∨ (0 ≤ x.toInt ∧ ∀ i : Nat, i < 7 → (∀ f : Nat, f < 5 → X.1 (125 + f) i = M.1 (125 + f) i) ∧ (∀ j : Nat, j < 4 → X.1 130 (4 * i + j) = if i = Int32.toNatClampNeg n1 ∧ j = Int32.toNatClampNeg n2 then n3 else M.1 130 (4 * i + j))))
theorem zP1_v {n1 n2 n3 r r2 : Int32} {M Y X : pvM} (h : zP1 M) (er : r = r2) (g9 : zV9 n1 n2 n3 (some (pvI r)) M Y) (k3 : zKm 125 130 M Y) (g10 : zV10 n1 n2 n3 (some (pvI r2)) Y X) (k1 : zKc 60 Y X) (w : X.1 8 1 = M.1 8 1) : zP1 X := by
  subst er
  obtain ⟨x9, e9, g9⟩ := g9
  obtain ⟨x10, e10, g10⟩ := g10
  have q9 : r = x9 := Sum.inl.inj (Option.some.inj e9)
  have q10 : r = x10 := Sum.inl.inj (Option.some.inj e10)
  subst q9
  subst q10
  rcases g9 with ⟨a, b⟩ | ⟨a, b⟩
  · rcases g10 with ⟨a2, b2⟩ | ⟨a2, -⟩
    · exact zP1_k h w (zKc_t b k1) (zKm_t k3 b2)
    · omega
  · rcases g10 with ⟨a2, -⟩ | ⟨a2, b2⟩
    · omega
    · intro i hi hn
      rw [w] at hn
      obtain ⟨x, y⟩ := h i hi hn
      refine ⟨fun f hf => ?_, fun j hj => ?_⟩
      · rw [(k1 i hi).1 f hf, (b i hi).1 f hf, (b2 i hi).1 f hf, (k3 i hi).1 f hf]
        exact x f hf
      · rw [(k1 i hi).2 j hj, (b i hi).2 j hj, (b2 i hi).2 j hj, (k3 i hi).2 j hj, y j hj]
theorem zrow9 {M X : pvM} {b : Nat} {n1 n2 n3 : Int32} (hb : b = 60) (e : X = pvu M (b + Int32.toNatClampNeg n1 + 7) (Int32.toNatClampNeg n2) n3) (i j : Nat) : X.1 (60 + 7 + i) j = if i = Int32.toNatClampNeg n1 ∧ j = Int32.toNatClampNeg n2 then n3 else M.1 (60 + 7 + i) j := by
  have u : b + Int32.toNatClampNeg n1 + 7 = 60 + 7 + Int32.toNatClampNeg n1 := by omega
  by_cases h : i = Int32.toNatClampNeg n1 ∧ j = Int32.toNatClampNeg n2
  · rw [if_pos h, h.1, h.2, ← u]
    exact pvu_s e
  · rw [if_neg h]
    exact pvu_n e _ _ (by omega)
theorem zrow10 {M X : pvM} {n1 n2 n3 : Int32} (h1 : 0 ≤ n1.toInt ∧ n1.toInt ≤ 6) (h2 : 0 ≤ n2.toInt ∧ n2.toInt ≤ 3) (e : X = pvu M 130 (Int32.toNatClampNeg ((4 * n1) + n2)) n3) (i j : Nat) (hj : j < 4) : X.1 130 (4 * i + j) = if i = Int32.toNatClampNeg n1 ∧ j = Int32.toNatClampNeg n2 then n3 else M.1 130 (4 * i + j) := by
  have u4 : (4 : Int32).toInt = 4 := by decide
  have a1 : (4 * n1).toInt = 4 * n1.toInt := by rw [zmul 4 n1 (by rw [u4]; omega) (by rw [u4]; omega), u4]
  have u : Int32.toNatClampNeg ((4 * n1) + n2) = 4 * Int32.toNatClampNeg n1 + Int32.toNatClampNeg n2 := by
    show ((4 * n1) + n2).toInt.toNat = 4 * n1.toInt.toNat + n2.toInt.toNat
    rw [zadd (4 * n1) n2 (by omega) (by omega), a1]
    omega
  have p : Int32.toNatClampNeg n2 < 4 := by
    show n2.toInt.toNat < 4
    omega
  rw [u] at e
  by_cases h : i = Int32.toNatClampNeg n1 ∧ j = Int32.toNatClampNeg n2
  · rw [if_pos h, h.1, h.2]
    exact pvu_s e
  · rw [if_neg h]
    exact pvu_n e _ _ (Or.inr (by omega))
theorem zk4 {n1 n2 : Int32} (h1 : 0 ≤ n1.toInt ∧ n1.toInt ≤ 6) (h2 : 0 ≤ n2.toInt ∧ n2.toInt ≤ 3) : Int32.toNatClampNeg ((4 * n1) + n2) = 4 * Int32.toNatClampNeg n1 + Int32.toNatClampNeg n2 := by
  have u4 : (4 : Int32).toInt = 4 := by decide
  have a1 : (4 * n1).toInt = 4 * n1.toInt := by rw [zmul 4 n1 (by rw [u4]; omega) (by rw [u4]; omega), u4]
  show ((4 * n1) + n2).toInt.toNat = 4 * n1.toInt.toNat + n2.toInt.toNat
  rw [zadd (4 * n1) n2 (by omega) (by omega), a1]
  omega
/-! rows copied by loops, one by one -/
def zC1 (d s n : Nat) (M X : pvM) : Prop := ∀ i : Nat, i < n → X.1 d i = M.1 s i
theorem zC1_0 (d s : Nat) (M X : pvM) : zC1 d s (Int32.toNatClampNeg 0) M X := fun i h => absurd h (Nat.not_lt_zero _)
theorem zC1_u {d s n q k : Nat} {v : Int32} {M Y X : pvM} (h : zC1 d s n M Y) (e : X = pvu Y q k v) (ne : d ≠ q) : zC1 d s n M X := fun i hi => (pvu_n e d i (Or.inl ne)).trans (h i hi)
theorem zC1_w {d s n : Nat} {v : Int32} {M Y X : pvM} (h : zC1 d s n M Y) (e : X = pvu Y d n v) (hv : v = M.1 s n) : zC1 d s (n + 1) M X := by
  intro i hi
  by_cases c : i = n
  · subst c
    exact (pvu_s e).trans hv
  · exact (pvu_n e d i (Or.inr c)).trans (h i (by omega))
theorem zC1_n {d s n n' : Nat} {M X : pvM} (e : n' = n) (h : zC1 d s n M X) : zC1 d s n' M X := e ▸ h
theorem znp1 {x : Int32} {a b : Int} (h : a ≤ x.toInt ∧ x.toInt ≤ b) (ha : 0 ≤ a) (hb : b ≤ 1000) : Int32.toNatClampNeg (x + 1) = Int32.toNatClampNeg x + 1 := by
  have u1 : (1 : Int32).toInt = 1 := by decide
  show (x + 1).toInt.toNat = x.toInt.toNat + 1
  rw [zadd x 1 (by rw [u1]; omega) (by rw [u1]; omega), u1]
  omega
theorem znp0 {x : Int32} {n : Nat} (h : (n : Int) ≤ x.toInt ∧ x.toInt ≤ (n : Int)) : n = Int32.toNatClampNeg x := by
  show n = x.toInt.toNat
  omega
theorem zvnar {x : Int32} (h : 0 ≤ x.toInt ∧ x.toInt ≤ 1) : vp_nar .boolean x = x := by
  have u0 : (0 : Int32).toInt = 0 := by decide
  have u1 : (1 : Int32).toInt = 1 := by decide
  have e : x = 0 ∨ x = 1 := by
    rw [zi_eq, zi_eq, u0, u1]
    omega
  rcases e with rfl | rfl <;> rfl
theorem zD_c {a b c e : Nat} {M X : pvM} (h0 : zC1 a c 7 M X) (h1 : zC1 (a + 1) (c + 1) 7 M X) (h2 : zC1 (a + 2) (c + 2) 7 M X) (h3 : zC1 (a + 3) (c + 3) 7 M X) (h4 : zC1 (a + 4) (c + 4) 7 M X) (hr : zC1 b e 28 M X) : zD a b c e M X := by
  intro i hi
  refine ⟨fun f hf => ?_, fun j hj => hr _ (by omega)⟩
  match f, hf with
  | 0, _ => exact h0 i hi
  | 1, _ => exact h1 i hi
  | 2, _ => exact h2 i hi
  | 3, _ => exact h3 i hi
  | 4, _ => exact h4 i hi
  | f + 5, z => exact absurd z (by omega)
/-! the language of the texts, with what is laid: one machine by signs (-1: behind the end) -/
def zdig (c : Int32) : Bool := decide (48 ≤ c) && decide (c ≤ 57)
def znu (σ : Nat → Int32) (p : Nat) : Bool × Nat × Int32 := if zdig (σ p) = true then (if zdig (σ (p + 1)) = true then (true, p + 2, ((10 * (σ p - 48)) + σ (p + 1)) - 48) else (true, p + 1, σ p - 48)) else (false, p, 0)
def zlf (c : Int32) : Int32 := if c = 119 then 0 else if c = 107 then 1 else if c = 102 then 2 else if c = 114 then 3 else if c = 115 then 4 else if c = 116 then 5 else -1
def zsg (c : Int32) : Bool := decide (60 ≤ c) && decide (c ≤ 62)
def ztst (σ : Nat → Int32) (p : Nat) : Bool × Nat := if ¬ zlf (σ p) = -1 then (if zsg (σ (p + 1)) = true then ((znu σ (p + 2)).1, (znu σ (p + 2)).2.1) else (false, p + 1)) else (false, p)
/-- a test as each side keeps it -/
def zk9 (σ : Nat → Int32) (p : Nat) : Int32 := (((zlf (σ p) * 3) + (σ (p + 1) - 60)) * 100) + (znu σ (p + 2)).2.2
def zk10 (σ : Nat → Int32) (p : Nat) : Int32 := ((1000 * zlf (σ p)) + (100 * (σ (p + 1) - 60))) + (znu σ (p + 2)).2.2
/-- what is open -/
def zopn : List Int32 → Nat
  | [] => 0
  | a :: w => (if a = 33 ∨ a = 40 then 1 else 0) + zopn w
def zwh : List Int32 → List Int32 → List Int32 × List Int32
  | [], o => ([], o)
  | a :: w, o => if a = 33 then zwh w (o ++ [-33]) else (a :: w, o)
def zse (s : Int32) : List Int32 → List Int32 → List Int32 × List Int32
  | [], o => ([], o)
  | a :: w, o => if a = 38 ∨ (a = 124 ∧ ¬ s = 38) then zse s w (o ++ [-a]) else (a :: w, o)
/-- 0 wants, 1 has, 2 read, 3 not read; what waits (the newest first); the place; what is laid -/
abbrev zCf := Nat × List Int32 × Nat × List Int32
def zsW (σ : Nat → Int32) (w : List Int32) (p : Nat) (o : List Int32) : zCf := if σ p = 33 ∨ σ p = 40 then (if zopn w = 4 then (3, [], p, []) else (0, σ p :: w, p + 1, o)) else if (ztst σ p).1 = true then (1, (zwh w (o ++ [zk10 σ p])).1, (ztst σ p).2, (zwh w (o ++ [zk10 σ p])).2) else (3, [], (ztst σ p).2, [])
def zsE (σ : Nat → Int32) (p : Nat) : List Int32 → List Int32 → zCf
  | [], o => (2, [], p, o)
  | _ :: w, o => if σ p = 41 then (1, (zwh w o).1, p + 1, (zwh w o).2) else (3, [], p, [])
def zsO (σ : Nat → Int32) (w : List Int32) (p : Nat) (o : List Int32) : zCf := if σ p = 38 ∨ σ p = 124 then (0, σ p :: (zse (σ p) w o).1, p + 1, (zse (σ p) w o).2) else zsE σ p (zse 124 w o).1 (zse 124 w o).2
def zst1 (σ : Nat → Int32) (c : zCf) : zCf := if c.1 = 0 then zsW σ c.2.1 c.2.2.1 c.2.2.2 else if c.1 = 1 then zsO σ c.2.1 c.2.2.1 c.2.2.2 else c
def zyit (σ : Nat → Int32) : Nat → zCf → zCf
  | 0, c => c
  | n + 1, c => zyit σ n (zst1 σ c)
def zyR (σ : Nat → Int32) (c e : zCf) : Prop := ∃ n : Nat, zyit σ n c = e
theorem zyit_add (σ : Nat → Int32) : ∀ (n m : Nat) (c : zCf), zyit σ (n + m) c = zyit σ m (zyit σ n c)
  | 0, m, c => by rw [Nat.zero_add]; rfl
  | n + 1, m, c => by
    rw [show n + 1 + m = (n + m) + 1 by omega]
    exact zyit_add σ n m (zst1 σ c)
theorem zyR_r (σ : Nat → Int32) (c : zCf) : zyR σ c c := ⟨0, rfl⟩
theorem zyR_t {σ : Nat → Int32} {a b c : zCf} (h : zyR σ a b) (k : zyR σ b c) : zyR σ a c := by
  obtain ⟨n, h⟩ := h
  obtain ⟨m, k⟩ := k
  exact ⟨n + m, by rw [zyit_add, h, k]⟩
theorem zyR_1 {σ : Nat → Int32} {a b : zCf} (h : zst1 σ a = b) : zyR σ a b := ⟨1, h⟩
theorem zyit_fin {σ : Nat → Int32} {c : zCf} (h : 2 ≤ c.1) : ∀ n : Nat, zyit σ n c = c
  | 0 => rfl
  | n + 1 => by
    have e : zst1 σ c = c := by
      unfold zst1
      rw [if_neg (by omega), if_neg (by omega)]
    show zyit σ n (zst1 σ c) = c
    rw [e]
    exact zyit_fin h n
theorem zyR_d {σ : Nat → Int32} {c a b : zCf} (h : zyR σ c a) (k : zyR σ c b) (ha : 2 ≤ a.1) (hb : 2 ≤ b.1) : a = b := by
  obtain ⟨n, h⟩ := h
  obtain ⟨m, k⟩ := k
  have e1 : zyit σ (n + m) c = a := by rw [zyit_add, h, zyit_fin ha]
  have e2 : zyit σ (n + m) c = b := by rw [Nat.add_comm, zyit_add, k, zyit_fin hb]
  exact e1.symm.trans e2
/-- an E from here ends so: read or not, where, what is laid -/
def zyE (σ : Nat → Int32) (p : Nat) (b : Bool) (q : Nat) (L : List Int32) : Prop := zyR σ (0, [], p, []) (if b = true then (2, [], q, L) else (3, [], q, []))
theorem zyE_d {σ : Nat → Int32} {p q q2 : Nat} {b b2 : Bool} {L L2 : List Int32} (h : zyE σ p b q L) (k : zyE σ p b2 q2 L2) : b = b2 ∧ q = q2 ∧ (b = true → L = L2) := by
  unfold zyE at h k
  have e := zyR_d h k (by cases b <;> simp) (by cases b2 <;> simp)
  cases b <;> cases b2
  · simp at e
    exact ⟨rfl, e, fun z => absurd z (by decide)⟩
  · simp at e
  · simp at e
  · simp at e
    exact ⟨rfl, e.1, fun _ => e.2⟩
def zwd (σ : Nat → Int32) : List Int32 → Nat → Bool × Nat
  | [], p => (true, p)
  | c :: l, p => if σ p = c then zwd σ l (p + 1) else (false, p)
/-- how a clause begins: the word, its signs -/
def zhw (c : Int32) : Option (Nat × List Int32) := if c = 119 then some (0, [119, 101, 116, 32]) else if c = 100 then some (1, [100, 114, 121, 32]) else if c = 115 then some (2, [115, 116, 97, 105, 114, 32]) else if c = 108 then some (3, [108, 97, 115, 116, 32]) else none
/-- a clause from here ends so: read or not, where, which word, which number, what is laid -/
def zCl (σ : Nat → Int32) (p : Nat) (b : Bool) (r w : Nat) (n : Int32) (L : List Int32) : Prop :=
  match zhw (σ p) with
  | none => b = false ∧ r = p
  | some (w', l) => if (zwd σ l p).1 = false then b = false ∧ r = (zwd σ l p).2 else
    if (znu σ (zwd σ l p).2).1 = false then b = false ∧ r = (znu σ (zwd σ l p).2).2.1 else
    if 2 ≤ w' then b = true ∧ r = (znu σ (zwd σ l p).2).2.1 ∧ w = w' ∧ n = (znu σ (zwd σ l p).2).2.2 ∧ L = [] else
    if σ (znu σ (zwd σ l p).2).2.1 = 32 then zyE σ ((znu σ (zwd σ l p).2).2.1 + 1) b r L ∧ w = w' ∧ n = (znu σ (zwd σ l p).2).2.2 else b = false ∧ r = (znu σ (zwd σ l p).2).2.1
theorem zCl_d {σ : Nat → Int32} {p r r2 w w2 : Nat} {b b2 : Bool} {n n2 : Int32} {L L2 : List Int32} (h : zCl σ p b r w n L) (k : zCl σ p b2 r2 w2 n2 L2) : b = b2 ∧ r = r2 ∧ (b = true → w = w2 ∧ n = n2 ∧ L = L2) := by
  unfold zCl at h k
  split at h
  · next e => rw [e] at k; exact ⟨h.1.trans k.1.symm, h.2.trans k.2.symm, fun z => absurd (h.1.symm.trans z) (by decide)⟩
  · next w' l e =>
    rw [e] at k
    dsimp only at k
    split at h
    · next c => rw [if_pos c] at k; exact ⟨h.1.trans k.1.symm, h.2.trans k.2.symm, fun z => absurd (h.1.symm.trans z) (by decide)⟩
    · next c =>
      rw [if_neg c] at k
      split at h
      · next c2 => rw [if_pos c2] at k; exact ⟨h.1.trans k.1.symm, h.2.trans k.2.symm, fun z => absurd (h.1.symm.trans z) (by decide)⟩
      · next c2 =>
        rw [if_neg c2] at k
        split at h
        · next c3 =>
          rw [if_pos c3] at k
          obtain ⟨a1, a2, a3, a4, a5⟩ := h
          obtain ⟨b1, b2, b3, b4, b5⟩ := k
          exact ⟨a1.trans b1.symm, a2.trans b2.symm, fun _ => ⟨a3.trans b3.symm, a4.trans b4.symm, a5.trans b5.symm⟩⟩
        · next c3 =>
          rw [if_neg c3] at k
          split at h
          · next c4 =>
            rw [if_pos c4] at k
            obtain ⟨e1, e2, e3⟩ := zyE_d h.1 k.1
            exact ⟨e1, e2, fun z => ⟨h.2.1.trans k.2.1.symm, h.2.2.trans k.2.2.symm, e3 z⟩⟩
          · next c4 => rw [if_neg c4] at k; exact ⟨h.1.trans k.1.symm, h.2.trans k.2.symm, fun z => absurd (h.1.symm.trans z) (by decide)⟩
/-- a text from a clause on; T: what stands behind a ; -/
def zTXs (σ : Nat → Int32) (T : Nat → Bool → Nat → List (Nat × Int32 × List Int32) → Prop) (m : Bool) (p : Nat) (b : Bool) (q : Nat) (S : List (Nat × Int32 × List Int32)) : Prop := ∃ (c : Bool) (r w : Nat) (n : Int32) (L : List Int32), zCl σ p c r w n L ∧ (if c = false then b = false ∧ q = r else if σ r = -1 then b = true ∧ q = r ∧ S = [(w, n, L)] else if m = true ∧ σ r = 59 then ∃ S2 : List (Nat × Int32 × List Int32), T (r + 1) b q S2 ∧ S = (w, n, L) :: S2 else b = false ∧ q = r)
/-- so many clauses more are allowed behind this one -/
def zTX (σ : Nat → Int32) : Nat → Nat → Bool → Nat → List (Nat × Int32 × List Int32) → Prop
  | 0 => zTXs σ (fun _ _ _ _ => False) false
  | f + 1 => zTXs σ (zTX σ f) true
theorem zTXs_d {σ : Nat → Int32} {T : Nat → Bool → Nat → List (Nat × Int32 × List Int32) → Prop} {m : Bool} (hT : ∀ {p q q2 : Nat} {b b2 : Bool} {S S2 : List (Nat × Int32 × List Int32)}, T p b q S → T p b2 q2 S2 → b = b2 ∧ q = q2 ∧ (b = true → S = S2)) {p q q2 : Nat} {b b2 : Bool} {S S2 : List (Nat × Int32 × List Int32)} (h : zTXs σ T m p b q S) (k : zTXs σ T m p b2 q2 S2) : b = b2 ∧ q = q2 ∧ (b = true → S = S2) := by
  obtain ⟨c, r, w, n, L, h1, h2⟩ := h
  obtain ⟨c', r', w', n', L', k1, k2⟩ := k
  obtain ⟨rfl, rfl, e⟩ := zCl_d h1 k1
  split at h2
  · next u => rw [if_pos u] at k2; exact ⟨h2.1.trans k2.1.symm, h2.2.trans k2.2.symm, fun z => absurd (h2.1.symm.trans z) (by decide)⟩
  · next u =>
    rw [if_neg u] at k2
    obtain ⟨rfl, rfl, rfl⟩ := e (by simpa using u)
    split at h2
    · next u2 => rw [if_pos u2] at k2; exact ⟨h2.1.trans k2.1.symm, h2.2.1.trans k2.2.1.symm, fun _ => h2.2.2.trans k2.2.2.symm⟩
    · next u2 =>
      rw [if_neg u2] at k2
      split at h2
      · next u3 =>
        rw [if_pos u3] at k2
        obtain ⟨A, t1, t2⟩ := h2
        obtain ⟨A', t1', t2'⟩ := k2
        obtain ⟨a1, a2, a3⟩ := hT t1 t1'
        exact ⟨a1, a2, fun z => by rw [t2, t2', a3 z]⟩
      · next u3 => rw [if_neg u3] at k2; exact ⟨h2.1.trans k2.1.symm, h2.2.trans k2.2.symm, fun z => absurd (h2.1.symm.trans z) (by decide)⟩
theorem zTX_d {σ : Nat → Int32} : ∀ (f : Nat) {p q q2 : Nat} {b b2 : Bool} {S S2 : List (Nat × Int32 × List Int32)}, zTX σ f p b q S → zTX σ f p b2 q2 S2 → b = b2 ∧ q = q2 ∧ (b = true → S = S2)
  | 0, _, _, _, _, _, _, _, h, k => zTXs_d (T := fun _ _ _ _ => False) (m := false) (fun z => z.elim) h k
  | f + 1, _, _, _, _, _, _, _, h, k => zTXs_d (T := zTX σ f) (m := true) (fun x y => zTX_d f x y) h k
/-! what the steps of a clause say -/
def zcmp (s a n : Int32) : Bool := if s = 0 then decide (a < n) else if s = 1 then decide (a = n) else decide (n < a)
def zps9 (φ : Nat → Int32) (t : Int32) : Bool := if t / 300 < 0 ∨ 6 ≤ t / 300 then false else zcmp (t / 100 - t / 100 / 3 * 3) (φ (Int32.toNatClampNeg (t / 300))) (t - t / 100 * 100)
def zfa (φ : Nat → Int32) (f : Int32) : Int32 := if f = 0 then φ 0 else if f = 1 then φ 1 else if f = 2 then φ 2 else if f = 3 then φ 3 else if f = 4 then φ 4 else φ 5
def zps10 (φ : Nat → Int32) (t : Int32) : Bool := zcmp (t / 100 - t / 100 / 10 * 10) (zfa φ (t / 1000)) (t - t / 100 * 100)
def znot : List Bool → List Bool
  | a :: s => (!a) :: s
  | [] => []
def zand : List Bool → List Bool
  | a :: b :: s => (b && a) :: s
  | s => s
def zor : List Bool → List Bool
  | a :: b :: s => (b || a) :: s
  | s => s
def ze9 (φ : Nat → Int32) (t : Int32) (s : List Bool) : List Bool := if t = -1 then znot s else if t = -2 then zand s else if t = -3 then zor s else zps9 φ t :: s
def ze10 (φ : Nat → Int32) (t : Int32) (s : List Bool) : List Bool := if t = -33 then znot s else if t < 0 then (if t = -38 then zand s else zor s) else zps10 φ t :: s
def zr9 (φ : Nat → Int32) : List Int32 → List Bool → List Bool
  | [], s => s
  | t :: L, s => zr9 φ L (ze9 φ t s)
def zr10 (φ : Nat → Int32) : List Int32 → List Bool → List Bool
  | [], s => s
  | t :: L, s => zr10 φ L (ze10 φ t s)
def zwf9 (t : Int32) (s : List Bool) : Prop := s.length ≤ 30 ∧ (t = -1 → 1 ≤ s.length) ∧ ((t = -2 ∨ t = -3) → 2 ≤ s.length)
def zbd (φ : Nat → Int32) : List Int32 → List Bool → Prop
  | [], _ => True
  | t :: L, s => zwf9 t s ∧ zbd φ L (ze9 φ t s)
theorem zr9_a (φ : Nat → Int32) : ∀ (A B : List Int32) (s : List Bool), zr9 φ (A ++ B) s = zr9 φ B (zr9 φ A s)
  | [], _, _ => rfl
  | t :: A, B, s => zr9_a φ A B (ze9 φ t s)
theorem zr10_a (φ : Nat → Int32) : ∀ (A B : List Int32) (s : List Bool), zr10 φ (A ++ B) s = zr10 φ B (zr10 φ A s)
  | [], _, _ => rfl
  | t :: A, B, s => zr10_a φ A B (ze10 φ t s)
theorem zbd_a (φ : Nat → Int32) : ∀ {A B : List Int32} {s : List Bool}, zbd φ A s → zbd φ B (zr9 φ A s) → zbd φ (A ++ B) s
  | [], _, _, _, h => h
  | _ :: _, _, _, h, k => ⟨h.1, zbd_a φ h.2 k⟩
/-- both say the same, so many at most are on top meanwhile -/
def zSem (h : Nat) (L L' : List Int32) : Prop := ∀ φ : Nat → Int32, ∃ v : Bool, ∀ s : List Bool, zr9 φ L s = v :: s ∧ zr10 φ L' s = v :: s ∧ (s.length + h ≤ 30 → zbd φ L s)
theorem zSem_m {h h' : Nat} {L L' : List Int32} (k : zSem h L L') (e : h ≤ h') : zSem h' L L' := fun φ => by
  obtain ⟨v, k⟩ := k φ
  exact ⟨v, fun s => ⟨(k s).1, (k s).2.1, fun z => (k s).2.2 (by omega)⟩⟩
theorem zSem_n {h : Nat} {L L' : List Int32} (k : zSem h L L') (h1 : 1 ≤ h) : zSem h (L ++ [-1]) (L' ++ [-33]) := fun φ => by
  obtain ⟨v, k⟩ := k φ
  refine ⟨!v, fun s => ?_⟩
  obtain ⟨a, b, c⟩ := k s
  refine ⟨?_, ?_, fun z => zbd_a φ (c z) ?_⟩
  · rw [zr9_a, a]; rfl
  · rw [zr10_a, b]; rfl
  · rw [a]
    refine ⟨⟨?_, fun _ => ?_, fun u => ?_⟩, trivial⟩
    · rw [List.length_cons]; omega
    · rw [List.length_cons]; omega
    · exact absurd u (by decide)
theorem zSem_nn {h : Nat} {L L' : List Int32} (k : zSem h L L') : zSem h L (L' ++ [-33, -33]) := fun φ => by
  obtain ⟨v, k⟩ := k φ
  refine ⟨v, fun s => ?_⟩
  obtain ⟨a, b, c⟩ := k s
  refine ⟨a, ?_, c⟩
  rw [zr10_a, b]
  show (!(!v)) :: s = _
  rw [Bool.not_not]
theorem zSem_k {h : Nat} {L L' : List Int32} (k : zSem h L L') (h1 : 1 ≤ h) : ∀ n : Nat, zSem h (L ++ (if n % 2 = 1 then [-1] else [])) (L' ++ List.replicate n (-33))
  | 0 => by
    rw [if_neg (by decide), List.append_nil]
    show zSem h L (L' ++ [])
    rw [List.append_nil]
    exact k
  | 1 => zSem_n k h1
  | n + 2 => by
    have e : List.replicate (n + 2) (-33 : Int32) = List.replicate n (-33) ++ [-33, -33] := by
      rw [show [(-33 : Int32), -33] = List.replicate 2 (-33) from rfl, List.replicate_append_replicate]
    rw [show (n + 2) % 2 = n % 2 by omega, e, ← List.append_assoc]
    exact zSem_nn (zSem_k k h1 n)
theorem zSem_a {h h1 h2 : Nat} {A A' B B' : List Int32} (k : zSem h1 A A') (j : zSem h2 B B') (e1 : h1 ≤ h) (e2 : h2 + 1 ≤ h) (e3 : 2 ≤ h) : zSem h (A ++ B ++ [-2]) (A' ++ B' ++ [-38]) := fun φ => by
  obtain ⟨v, k⟩ := k φ
  obtain ⟨u, j⟩ := j φ
  refine ⟨v && u, fun s => ?_⟩
  obtain ⟨a, b, c⟩ := k s
  obtain ⟨a2, b2, c2⟩ := j (v :: s)
  refine ⟨?_, ?_, fun z => zbd_a φ (zbd_a φ (c (by omega)) ?_) ?_⟩
  · rw [zr9_a, zr9_a, a, a2]; rfl
  · rw [zr10_a, zr10_a, b, b2]; rfl
  · rw [a]
    exact c2 (by rw [List.length_cons]; omega)
  · rw [zr9_a, a, a2]
    refine ⟨⟨?_, fun u => absurd u (by decide), fun _ => ?_⟩, trivial⟩
    · rw [List.length_cons, List.length_cons]; omega
    · rw [List.length_cons, List.length_cons]; omega
theorem zSem_o {h h1 h2 : Nat} {A A' B B' : List Int32} (k : zSem h1 A A') (j : zSem h2 B B') (e1 : h1 ≤ h) (e2 : h2 + 1 ≤ h) (e3 : 2 ≤ h) : zSem h (A ++ B ++ [-3]) (A' ++ B' ++ [-124]) := fun φ => by
  obtain ⟨v, k⟩ := k φ
  obtain ⟨u, j⟩ := j φ
  refine ⟨v || u, fun s => ?_⟩
  obtain ⟨a, b, c⟩ := k s
  obtain ⟨a2, b2, c2⟩ := j (v :: s)
  refine ⟨?_, ?_, fun z => zbd_a φ (zbd_a φ (c (by omega)) ?_) ?_⟩
  · rw [zr9_a, zr9_a, a, a2]; rfl
  · rw [zr10_a, zr10_a, b, b2]; rfl
  · rw [a]
    exact c2 (by rw [List.length_cons]; omega)
  · rw [zr9_a, a, a2]
    refine ⟨⟨?_, fun u => absurd u (by decide), fun _ => ?_⟩, trivial⟩
    · rw [List.length_cons, List.length_cons]; omega
    · rw [List.length_cons, List.length_cons]; omega
theorem ztk9 : ∀ l, l < 6 → ∀ s, s < 3 → ∀ n, n < 100 → let t := ((((nI l) * 3) + nI s) * 100) + nI n; (0 ≤ t ∧ t / 300 = nI l ∧ t / 100 - t / 100 / 3 * 3 = nI s ∧ t - t / 100 * 100 = nI n) := by decide +kernel
theorem ztk10 : ∀ l, l < 6 → ∀ s, s < 3 → ∀ n, n < 100 → let t := ((1000 * (nI l)) + (100 * nI s)) + nI n; (0 ≤ t ∧ t / 1000 = nI l ∧ t / 100 - t / 100 / 10 * 10 = nI s ∧ t - t / 100 * 100 = nI n) := by decide +kernel
theorem zn6 : ∀ l, l < 6 → ¬ (nI l < 0 ∨ 6 ≤ nI l) ∧ Int32.toNatClampNeg (nI l) = l := by decide
theorem zSem_t {h l s n : Nat} (hl : l < 6) (hs : s < 3) (hn : n < 100) (h1 : 1 ≤ h) : zSem h [((((nI l) * 3) + nI s) * 100) + nI n] [((1000 * (nI l)) + (100 * nI s)) + nI n] := fun φ => by
  obtain ⟨a0, a1, a2, a3⟩ := ztk9 l hl s hs n hn
  obtain ⟨b0, b1, b2, b3⟩ := ztk10 l hl s hs n hn
  generalize ((((nI l) * 3) + nI s) * 100) + nI n = t at *
  generalize ((1000 * (nI l)) + (100 * nI s)) + nI n = t' at *
  have u0 : (0 : Int32).toInt = 0 := by decide
  have n1 : (-1 : Int32).toInt = -1 := by decide
  have n2 : (-2 : Int32).toInt = -2 := by decide
  have n3 : (-3 : Int32).toInt = -3 := by decide
  have n33 : (-33 : Int32).toInt = -33 := by decide
  rw [zi_le, u0] at a0 b0
  have c1 : ¬ t = -1 := by rw [zi_eq, n1]; omega
  have c2 : ¬ t = -2 := by rw [zi_eq, n2]; omega
  have c3 : ¬ t = -3 := by rw [zi_eq, n3]; omega
  have c4 : ¬ t' = -33 := by rw [zi_eq, n33]; omega
  have c5 : ¬ t' < 0 := by rw [zi_lt, u0]; omega
  have d : zps9 φ t = zps10 φ t' := by
    obtain ⟨g1, g2⟩ := zn6 l hl
    unfold zps9 zps10
    rw [a1, a2, a3, b1, b2, b3, if_neg g1, g2]
    congr 1
    have hl2 : l = 0 ∨ l = 1 ∨ l = 2 ∨ l = 3 ∨ l = 4 ∨ l = 5 := by omega
    rcases hl2 with rfl | rfl | rfl | rfl | rfl | rfl <;> rfl
  refine ⟨zps9 φ t, fun s => ⟨?_, ?_, fun z => ⟨⟨?_, fun u => absurd u c1, fun u => u.elim (fun u => absurd u c2) (fun u => absurd u c3)⟩, trivial⟩⟩⟩
  · show ze9 φ t s = _
    unfold ze9
    rw [if_neg c1, if_neg c2, if_neg c3]
  · show ze10 φ t' s = _
    unfold ze10
    rw [if_neg c4, if_neg c5, d]
  · omega
/-! the class's reader, by signs -/
def zs9 (M : pvM) (p : Nat) : Int32 := if (p : Int) < (M.1 6 1).toInt then M.1 7 p else -1
def zP9 (M : pvM) : Nat := Int32.toNatClampNeg (M.1 6 2)
def zRq (M : pvM) : Prop := (0 ≤ (M.1 6 2).toInt ∧ (M.1 6 2).toInt ≤ 100) ∧ M.1 6 3 = zs9 M (zP9 M)
theorem zs9_k {M X : pvM} (h1 : X.1 6 1 = M.1 6 1) (h7 : ∀ i : Nat, X.1 7 i = M.1 7 i) : zs9 X = zs9 M := by
  funext p
  unfold zs9
  rw [h1, h7]
/-- all but the reader's place and sign stays -/
def zKh (M X : pvM) : Prop := X.1 6 1 = M.1 6 1 ∧ X.1 6 4 = M.1 6 4 ∧ ∀ a b : Nat, 7 ≤ a → X.1 a b = M.1 a b
theorem zKh_r (M : pvM) : zKh M M := ⟨rfl, rfl, fun _ _ _ => rfl⟩
theorem zKh_t {M Y X : pvM} (h : zKh M Y) (k : zKh Y X) : zKh M X := ⟨k.1.trans h.1, k.2.1.trans h.2.1, fun a b z => (k.2.2 a b z).trans (h.2.2 a b z)⟩
theorem zKh_s {M X : pvM} (h : zKh M X) : zs9 X = zs9 M := zs9_k h.1 (fun i => h.2.2 7 i (Nat.le_refl _))
theorem zKh_u {M X : pvM} {k : Nat} {v : Int32} (e : X = pvu M 6 k v) (h1 : 1 ≠ k) (h4 : 4 ≠ k) : zKh M X := ⟨pvu_n e 6 1 (Or.inr h1), pvu_n e 6 4 (Or.inr h4), fun a b z => pvu_n e a b (Or.inl (by omega))⟩
def zlow (L : List (Nat × Nat × Nat)) : Bool := L.all fun a => Nat.beq a.1 0 && Nat.ble a.2.1 6
theorem zlow_p {L : List (Nat × Nat × Nat)} (h : zlow L = true) {a : Nat} (ha : 7 ≤ a) (b : Nat) : pvfp L a b = false := by
  unfold pvfp
  rw [List.any_eq_false]
  intro x hx hb
  unfold zlow at h
  rw [List.all_eq_true] at h
  have h1 := h x hx
  rw [Bool.and_eq_true] at h1
  unfold pvfa at hb
  rw [Bool.and_eq_true, h1.1, cond_true] at hb
  have h2 := Nat.eq_of_beq_eq_true hb.1
  have h3 := Nat.le_of_ble_eq_true h1.2
  omega
theorem zKh_f {L : List (Nat × Nat × Nat)} {M X : pvM} (hf : pvFr (pvfp L) M X) (hl : zlow L = true) (h1 : pvfp L 6 1 = false) (h4 : pvfp L 6 4 = false) : zKh M X := ⟨hf 6 1 h1, hf 6 4 h4, fun a b z => hf a b (zlow_p hl z b)⟩
theorem zRq_k {M X : pvM} (h : zRq M) (h1 : X.1 6 1 = M.1 6 1) (h2 : X.1 6 2 = M.1 6 2) (h3 : X.1 6 3 = M.1 6 3) (h7 : ∀ i : Nat, X.1 7 i = M.1 7 i) : zRq X := by
  unfold zRq zP9
  rw [zs9_k h1 h7, h2, h3]
  exact h
def zGo (M X : pvM) : Prop := zRq X ∧ X.1 6 2 = M.1 6 2 + 1 ∧ zKh M X
theorem zGo_e {M Y X : pvM} (hr : (-1) ≤ (M.1 6 2).toInt ∧ (M.1 6 2).toInt ≤ 99) (e1 : Y = pvu M 6 2 (M.1 6 2 + 1)) (c : Y.1 6 1 ≤ Y.1 6 2) (e2 : X = pvu Y 6 3 (-1)) : zGo M X := by
  have u1 : (1 : Int32).toInt = 1 := by decide
  have a1 : Y.1 6 2 = M.1 6 2 + 1 := pvu_s e1
  have a2 : X.1 6 2 = Y.1 6 2 := pvu_n e2 6 2 (Or.inr (by decide))
  have a3 : X.1 6 1 = Y.1 6 1 := pvu_n e2 6 1 (Or.inr (by decide))
  have s1 : (M.1 6 2 + 1).toInt = (M.1 6 2).toInt + 1 := by rw [zadd _ _ (by rw [u1]; omega) (by rw [u1]; omega), u1]
  rw [zi_le, a1, s1] at c
  refine ⟨⟨by rw [a2, a1, s1]; omega, ?_⟩, by rw [a2, a1], zKh_t (zKh_u e1 (by decide) (by decide)) (zKh_u e2 (by decide) (by decide))⟩
  unfold zs9 zP9
  rw [if_neg]
  · exact pvu_s e2
  · rw [a2, a3, a1]
    show ¬ (((M.1 6 2 + 1).toInt.toNat : Nat) : Int) < _
    omega
theorem zGo_t {M Y X : pvM} (hr : (-1) ≤ (M.1 6 2).toInt ∧ (M.1 6 2).toInt ≤ 99) (e1 : Y = pvu M 6 2 (M.1 6 2 + 1)) (c : ¬ Y.1 6 1 ≤ Y.1 6 2) (e2 : X = pvu Y 6 3 (Y.1 7 (Int32.toNatClampNeg (Y.1 6 2)))) : zGo M X := by
  have u1 : (1 : Int32).toInt = 1 := by decide
  have a1 : Y.1 6 2 = M.1 6 2 + 1 := pvu_s e1
  have a2 : X.1 6 2 = Y.1 6 2 := pvu_n e2 6 2 (Or.inr (by decide))
  have a3 : X.1 6 1 = Y.1 6 1 := pvu_n e2 6 1 (Or.inr (by decide))
  have s1 : (M.1 6 2 + 1).toInt = (M.1 6 2).toInt + 1 := by rw [zadd _ _ (by rw [u1]; omega) (by rw [u1]; omega), u1]
  rw [zi_le, a1, s1] at c
  refine ⟨⟨by rw [a2, a1, s1]; omega, ?_⟩, by rw [a2, a1], zKh_t (zKh_u e1 (by decide) (by decide)) (zKh_u e2 (by decide) (by decide))⟩
  unfold zs9 zP9
  rw [if_pos]
  · rw [a2, pvu_n e2 7 _ (Or.inl (by decide))]
    exact pvu_s e2
  · rw [a2, a3, a1]
    show (((M.1 6 2 + 1).toInt.toNat : Nat) : Int) < _
    omega
theorem zGo_p {M X : pvM} (g : zGo M X) (h0 : 0 ≤ (M.1 6 2).toInt) (h1 : (M.1 6 2).toInt ≤ 100) : zP9 X = zP9 M + 1 := by
  have u1 : (1 : Int32).toInt = 1 := by decide
  unfold zP9
  rw [g.2.1]
  show (M.1 6 2 + 1).toInt.toNat = (M.1 6 2).toInt.toNat + 1
  rw [zadd _ _ (by rw [u1]; omega) (by rw [u1]; omega), u1]
  omega
/-- a reading that says yes or no -/
def zRb (T : (Nat → Int32) → Nat → Bool → Nat → Prop) (r : Option pvV) (M X : pvM) : Prop := zRq X ∧ zKh M X ∧ ∃ b : Bool, r = some (pvI (bif b then 1 else 0)) ∧ T (zs9 M) (zP9 M) b (zP9 X)
theorem zRb_y {T : (Nat → Int32) → Nat → Bool → Nat → Prop} {x : Int32} {M X : pvM} (h : zRb T (some (pvI x)) M X) (c : ¬ x = 0) : zRq X ∧ zKh M X ∧ T (zs9 M) (zP9 M) true (zP9 X) := by
  obtain ⟨a, b, t, e, k⟩ := h
  have e : x = bif t then 1 else 0 := Sum.inl.inj (Option.some.inj e)
  cases t
  · exact absurd e c
  · exact ⟨a, b, k⟩
theorem zRb_n {T : (Nat → Int32) → Nat → Bool → Nat → Prop} {x : Int32} {M X : pvM} (h : zRb T (some (pvI x)) M X) (c : x = 0) : zRq X ∧ zKh M X ∧ T (zs9 M) (zP9 M) false (zP9 X) := by
  obtain ⟨a, b, t, e, k⟩ := h
  have e : x = bif t then 1 else 0 := Sum.inl.inj (Option.some.inj e)
  cases t
  · exact ⟨a, b, k⟩
  · rw [c] at e
    exact absurd e (by decide)
def zTsg (c : Int32) (σ : Nat → Int32) (p : Nat) (b : Bool) (q : Nat) : Prop := if σ p = c then b = true ∧ q = p + 1 else b = false ∧ q = p
theorem zTsg_y {c : Int32} {σ : Nat → Int32} {p q : Nat} (h : zTsg c σ p true q) : σ p = c ∧ q = p + 1 := by
  unfold zTsg at h
  split at h
  · next e => exact ⟨e, h.2⟩
  · exact absurd h.1 (by decide)
theorem zTsg_n {c : Int32} {σ : Nat → Int32} {p q : Nat} (h : zTsg c σ p false q) : ¬ σ p = c ∧ q = p := by
  unfold zTsg at h
  split at h
  · exact absurd h.1 (by decide)
  · next e => exact ⟨e, h.2⟩
theorem zRs_y {n1 : Int32} {M X : pvM} (hz : zRq M) (c : M.1 6 3 = n1) (g : zGo M X) : zRb (zTsg n1) (some (pvI 1)) M X := by
  refine ⟨g.1, g.2.2, true, rfl, ?_⟩
  unfold zTsg
  rw [if_pos (hz.2.symm.trans c)]
  exact ⟨rfl, zGo_p g hz.1.1 hz.1.2⟩
theorem zRs_n {n1 : Int32} {M : pvM} (hz : zRq M) (c : ¬ M.1 6 3 = n1) : zRb (zTsg n1) (some (pvI 0)) M M := by
  refine ⟨hz, zKh_r M, false, rfl, ?_⟩
  unfold zTsg
  rw [if_neg (fun e => c (hz.2.trans e))]
  exact ⟨rfl, rfl⟩
/-- a word -/
def zTw (l : List Int32) (σ : Nat → Int32) (p : Nat) (b : Bool) (q : Nat) : Prop := zwd σ l p = (b, q)
def zLw (l : List Int32) (i : Nat) (M X : pvM) : Prop := zRq X ∧ zKh M X ∧ zwd (zs9 M) l (zP9 M) = zwd (zs9 M) (l.drop i) (zP9 X)
theorem zLw_0 {l : List Int32} {M : pvM} (hz : zRq M) : zLw l (Int32.toNatClampNeg 0) M M := ⟨hz, zKh_r M, rfl⟩
theorem zLw_s {l : List Int32} {i : Nat} {x : Int32} {M Y X : pvM} (h : zLw l i M Y) (hi : i < l.length) (d : zRb (zTsg (l.getD i 0)) (some (pvI x)) Y X) (c : ¬ x = 0) : zLw l (i + 1) M X := by
  obtain ⟨a, b, e⟩ := zRb_y d c
  obtain ⟨e1, e2⟩ := zTsg_y e
  refine ⟨a, zKh_t h.2.1 b, ?_⟩
  rw [h.2.2, List.drop_eq_getElem_cons hi, e2]
  show (if _ = _ then _ else _) = _
  rw [if_pos]
  rw [← zKh_s h.2.1, e1, List.getD_eq_getElem?_getD, List.getElem?_eq_getElem hi]
  rfl
theorem zLw_n {l : List Int32} {i : Nat} {x : Int32} {M Y X : pvM} (h : zLw l i M Y) (hi : i < l.length) (d : zRb (zTsg (l.getD i 0)) (some (pvI x)) Y X) (c : x = 0) : zRb (zTw l) (some (pvI 0)) M X := by
  obtain ⟨a, b, e⟩ := zRb_n d c
  obtain ⟨e1, e2⟩ := zTsg_n e
  refine ⟨a, zKh_t h.2.1 b, false, rfl, ?_⟩
  unfold zTw
  rw [h.2.2, List.drop_eq_getElem_cons hi, e2]
  show (if _ = _ then _ else _) = _
  rw [if_neg]
  rw [← zKh_s h.2.1]
  rw [List.getD_eq_getElem?_getD, List.getElem?_eq_getElem hi] at e1
  exact e1
theorem zLw_e {l : List Int32} {i : Nat} {M X : pvM} (h : zLw l i M X) (hi : l.length ≤ i) : zRb (zTw l) (some (pvI 1)) M X := by
  refine ⟨h.1, h.2.1, true, rfl, ?_⟩
  unfold zTw
  rw [h.2.2, List.drop_eq_nil_of_le hi]
  rfl
theorem zLw_t {l : List Int32} {n n' : Nat} {M X : pvM} (e : n' = n) (h : zLw l n M X) : zLw l n' M X := e ▸ h
theorem zlen {q : Nat} (h : 1010 ≤ q ∧ q < 1017) : zsl.getD (q - 1010) 0 = (zsb.getD (q - 1010) []).length ∧ zsl.getD (q - 1010) 0 ≤ 6 := by
  obtain ⟨k, rfl⟩ : ∃ k, q = 1010 + k := ⟨q - 1010, by omega⟩
  have hk : k < 7 := by omega
  rw [Nat.add_sub_cancel_left]
  match k, hk with
  | 0, _ => decide
  | 1, _ => decide
  | 2, _ => decide
  | 3, _ => decide
  | 4, _ => decide
  | 5, _ => decide
  | 6, _ => decide
  | k + 7, z => exact absurd z (by omega)
theorem zLen_lt {q : Nat} {i : Int32} (h : 1010 ≤ q ∧ q < 1017) (h0 : 0 ≤ i.toInt) (c : ¬ nI (zsl.getD (q - 1010) 0) ≤ i) : Int32.toNatClampNeg i < (zsb.getD (q - 1010) []).length := by
  obtain ⟨a, b⟩ := zlen h
  rw [zi_le, nI_toInt (by omega)] at c
  rw [← a]
  show i.toInt.toNat < _
  omega
theorem zLen_ge {q : Nat} {i : Int32} (h : 1010 ≤ q ∧ q < 1017) (c : nI (zsl.getD (q - 1010) 0) ≤ i) : (zsb.getD (q - 1010) []).length ≤ Int32.toNatClampNeg i := by
  obtain ⟨a, b⟩ := zlen h
  rw [zi_le, nI_toInt (by omega)] at c
  rw [← a]
  show _ ≤ i.toInt.toNat
  omega
/-- one of the signs -/
def zRo (l : List Int32) (r : Option pvV) (M X : pvM) : Prop := zRq X ∧ zKh M X ∧ ∃ x : Int32, r = some (pvI x) ∧ x = (if zs9 M (zP9 M) = -1 then -1 else pvixF (zs9 M (zP9 M)) l 0) ∧ zP9 X = (if x.toInt < 0 then zP9 M else zP9 M + 1)
theorem zRo_e {l : List Int32} {M : pvM} (hz : zRq M) (c : M.1 6 3 = -1) : zRo l (some (pvI (-1))) M M := by
  refine ⟨hz, zKh_r M, -1, rfl, ?_, ?_⟩
  · rw [if_pos (hz.2.symm.trans c)]
  · rw [if_pos (by decide)]
theorem zRo_n {l : List Int32} {M : pvM} {v : Int32} (hz : zRq M) (c : ¬ M.1 6 3 = -1) (hv : v = M.1 6 3) (n : (pvixF v l 0).toInt < 0) : zRo l (some (pvI (pvixF v l 0))) M M := by
  subst hv
  refine ⟨hz, zKh_r M, _, rfl, ?_, ?_⟩
  · rw [if_neg (fun e => c (hz.2.trans e)), hz.2]
  · rw [if_pos n]
theorem zRo_y {l : List Int32} {M X : pvM} {v : Int32} (hz : zRq M) (c : ¬ M.1 6 3 = -1) (hv : v = M.1 6 3) (n : ¬ (pvixF v l 0).toInt < 0) (g : zGo M X) : zRo l (some (pvI (pvixF v l 0))) M X := by
  subst hv
  refine ⟨g.1, g.2.2, _, rfl, ?_, ?_⟩
  · rw [if_neg (fun e => c (hz.2.trans e)), hz.2]
  · rw [if_neg n]
    exact zGo_p g hz.1.1 hz.1.2
/-- a number -/
def zRn (r : Option pvV) (M X : pvM) : Prop := zRq X ∧ zKh M X ∧ zP9 X = (znu (zs9 M) (zP9 M)).2.1 ∧ ∃ x : Int32, r = some (pvI x) ∧ (if (znu (zs9 M) (zP9 M)).1 = true then x = (znu (zs9 M) (zP9 M)).2.2 ∧ 0 ≤ x.toInt else x.toInt < 0)
theorem zdig_y {c : Int32} (h1 : ¬ c < 48) (h2 : ¬ 57 < c) : zdig c = true := by
  have u1 : (48 : Int32).toInt = 48 := by decide
  have u2 : (57 : Int32).toInt = 57 := by decide
  rw [zi_lt, u1] at h1
  rw [zi_lt, u2] at h2
  unfold zdig
  rw [Bool.and_eq_true, decide_eq_true_eq, decide_eq_true_eq, zi_le, zi_le, u1, u2]
  omega
theorem zdig_n {c : Int32} (h : c < 48 ∨ 57 < c) : ¬ zdig c = true := by
  have u1 : (48 : Int32).toInt = 48 := by decide
  have u2 : (57 : Int32).toInt = 57 := by decide
  unfold zdig
  rw [Bool.and_eq_true, decide_eq_true_eq, decide_eq_true_eq, zi_le, zi_le, u1, u2]
  rw [zi_lt, zi_lt, u1, u2] at h
  omega
theorem zdig_r {c : Int32} (h : zdig c = true) : 48 ≤ c.toInt ∧ c.toInt ≤ 57 := by
  have u1 : (48 : Int32).toInt = 48 := by decide
  have u2 : (57 : Int32).toInt = 57 := by decide
  unfold zdig at h
  rw [Bool.and_eq_true, decide_eq_true_eq, decide_eq_true_eq, zi_le, zi_le, u1, u2] at h
  exact h
theorem zRn_n {M : pvM} (hz : zRq M) (c : M.1 6 3 < 48 ∨ 57 < M.1 6 3) : zRn (some (pvI (-1))) M M := by
  have k : ¬ zdig (zs9 M (zP9 M)) = true := by rw [← hz.2]; exact zdig_n c
  refine ⟨hz, zKh_r M, ?_, -1, rfl, ?_⟩
  · unfold znu
    rw [if_neg k]
  · unfold znu
    rw [if_neg k, if_neg Bool.false_ne_true]
    decide
theorem zRn_1 {M Y : pvM} (hz : zRq M) (c1 : ¬ M.1 6 3 < 48) (c2 : ¬ 57 < M.1 6 3) (g : zGo M Y) (c : Y.1 6 3 < 48 ∨ 57 < Y.1 6 3) (h0 : 0 ≤ (M.1 6 3 - 48).toInt) : zRn (some (pvI (M.1 6 3 - 48))) M Y := by
  have k := zKh_s g.2.2
  have k1 : zdig (zs9 M (zP9 M)) = true := by rw [← hz.2]; exact zdig_y c1 c2
  have p1 := zGo_p g hz.1.1 hz.1.2
  have k2 : ¬ zdig (zs9 M (zP9 M + 1)) = true := by rw [← k, ← p1, ← g.1.2]; exact zdig_n c
  refine ⟨g.1, g.2.2, ?_, _, rfl, ?_⟩
  · unfold znu
    rw [if_pos k1, if_neg k2]
    exact p1
  · unfold znu
    rw [if_pos k1, if_neg k2, if_pos rfl]
    exact ⟨by rw [hz.2], h0⟩
theorem zRn_2 {M Y X : pvM} (hz : zRq M) (c1 : ¬ M.1 6 3 < 48) (c2 : ¬ 57 < M.1 6 3) (g : zGo M Y) (d1 : ¬ Y.1 6 3 < 48) (d2 : ¬ 57 < Y.1 6 3) (g2 : zGo Y X) (h0 : 0 ≤ (((10 * (M.1 6 3 - 48)) + Y.1 6 3) - 48).toInt) : zRn (some (pvI (((10 * (M.1 6 3 - 48)) + Y.1 6 3) - 48))) M X := by
  have k := zKh_s g.2.2
  have k1 : zdig (zs9 M (zP9 M)) = true := by rw [← hz.2]; exact zdig_y c1 c2
  have p1 := zGo_p g hz.1.1 hz.1.2
  have k3 : zdig (zs9 M (zP9 M + 1)) = true := by rw [← k, ← p1, ← g.1.2]; exact zdig_y d1 d2
  have p2 := zGo_p g2 g.1.1.1 g.1.1.2
  refine ⟨g2.1, zKh_t g.2.2 g2.2.2, ?_, _, rfl, ?_⟩
  · unfold znu
    rw [if_pos k1, if_pos k3]
    show zP9 X = zP9 M + 2
    rw [p2, p1]
  · unfold znu
    rw [if_pos k1, if_pos k3, if_pos rfl]
    refine ⟨?_, h0⟩
    rw [hz.2, g.1.2, k, p1]
theorem zRn_y {x : Int32} {M X : pvM} (h : zRn (some (pvI x)) M X) (c : ¬ x.toInt < 0) : zRq X ∧ zKh M X ∧ (znu (zs9 M) (zP9 M)).1 = true ∧ zP9 X = (znu (zs9 M) (zP9 M)).2.1 ∧ x = (znu (zs9 M) (zP9 M)).2.2 := by
  obtain ⟨a, b, p, y, e, k⟩ := h
  have e : x = y := Sum.inl.inj (Option.some.inj e)
  subst e
  by_cases t : (znu (zs9 M) (zP9 M)).1 = true
  · rw [if_pos t] at k
    exact ⟨a, b, t, p, k.1⟩
  · rw [if_neg t] at k
    exact absurd k c
theorem zRn_no {x : Int32} {M X : pvM} (h : zRn (some (pvI x)) M X) (c : x.toInt < 0) : zRq X ∧ zKh M X ∧ (znu (zs9 M) (zP9 M)).1 = false ∧ zP9 X = (znu (zs9 M) (zP9 M)).2.1 := by
  obtain ⟨a, b, p, y, e, k⟩ := h
  have e : x = y := Sum.inl.inj (Option.some.inj e)
  subst e
  by_cases t : (znu (zs9 M) (zP9 M)).1 = true
  · rw [if_pos t] at k
    omega
  · exact ⟨a, b, by simpa using t, p⟩
theorem znu_r {σ : Nat → Int32} {p : Nat} (h : (znu σ p).1 = true) : (0 ≤ (znu σ p).2.2.toInt ∧ (znu σ p).2.2.toInt ≤ 99) ∧ p + 1 ≤ (znu σ p).2.1 := by
  have u48 : (48 : Int32).toInt = 48 := by decide
  have u10 : (10 : Int32).toInt = 10 := by decide
  unfold znu at h ⊢
  by_cases c : zdig (σ p) = true
  · rw [if_pos c]
    have k := zdig_r c
    have e : (σ p - 48).toInt = (σ p).toInt - 48 := by rw [zsub _ _ (by rw [u48]; omega) (by rw [u48]; omega), u48]
    by_cases c2 : zdig (σ (p + 1)) = true
    · rw [if_pos c2]
      have k2 := zdig_r c2
      have e2 : (10 * (σ p - 48)).toInt = 10 * ((σ p).toInt - 48) := by rw [zmul _ _ (by rw [u10, e]; omega) (by rw [u10, e]; omega), u10, e]
      have e3 : (10 * (σ p - 48) + σ (p + 1)).toInt = 10 * ((σ p).toInt - 48) + (σ (p + 1)).toInt := by rw [zadd _ _ (by rw [e2]; omega) (by rw [e2]; omega), e2]
      have e4 : (10 * (σ p - 48) + σ (p + 1) - 48).toInt = 10 * ((σ p).toInt - 48) + (σ (p + 1)).toInt - 48 := by rw [zsub _ _ (by rw [e3, u48]; omega) (by rw [e3, u48]; omega), e3, u48]
      exact ⟨by show 0 ≤ (10 * (σ p - 48) + σ (p + 1) - 48).toInt ∧ _; rw [e4]; omega, by show p + 1 ≤ p + 2; omega⟩
    · rw [if_neg c2]
      exact ⟨by show 0 ≤ (σ p - 48).toInt ∧ _; rw [e]; omega, by show p + 1 ≤ p + 1; omega⟩
  · rw [if_neg c] at h
    exact absurd h Bool.false_ne_true
