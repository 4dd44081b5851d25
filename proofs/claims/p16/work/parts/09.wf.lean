/-! clauses that are well formed; steps of a clause walked -/
def pvWc (M : pvM) (c : Nat) : Prop := zcl (M.1 138) (M.1 136) (M.1 137) c
def pvWh (M : pvM) (h : Nat) : Prop := ∀ c : Nat, 10 * h ≤ c → (c : Int) < 10 * (h : Int) + (M.1 133 h).toInt → (M.1 134 c).toInt < 2 → pvWc M c ∧ (M.1 137 c).toInt ≤ 100 * (h : Int) + 100
def pvWF (M : pvM) : Prop := (M.1 124 15).toInt < (M.1 124 14).toInt ∧ (M.1 124 47).toInt < (M.1 124 14).toInt ∧ ∀ h : Nat, (h : Int) < (M.1 124 14).toInt → pvWh M h
def pvfq (L : List (Nat × Nat × Nat)) (q : Nat) : Bool := L.any fun a => bif Nat.beq a.1 0 then Nat.beq q a.2.1 else Nat.beq (pvrl q) a.2.1
theorem pvfq_p {L : List (Nat × Nat × Nat)} {q : Nat} (h : pvfq L q = false) (k : Nat) : pvfp L q k = false := by
  unfold pvfp
  rw [List.any_eq_false]
  intro a ha hb
  unfold pvfq at h
  rw [List.any_eq_false] at h
  apply h a ha
  unfold pvfa at hb
  rw [Bool.and_eq_true] at hb
  exact hb.1
theorem pvfr_row {L : List (Nat × Nat × Nat)} {M X : pvM} {q : Nat} (hf : pvFr (pvfp L) M X) (h : pvfq L q = false) : X.1 q = M.1 q := funext fun k => hf q k (pvfq_p h k)
def pvWFx (L : List (Nat × Nat × Nat)) : Bool := !pvfp L 124 14 && !pvfp L 124 15 && !pvfp L 124 47 && !pvfq L 133 && !pvfq L 134 && !pvfq L 136 && !pvfq L 137 && !pvfq L 138
theorem pvWF_fr {L : List (Nat × Nat × Nat)} {M X : pvM} (hx : pvWFx L = true) (hf : pvFr (pvfp L) M X) (h : pvWF M) : pvWF X := by
  simp only [pvWFx, Bool.and_eq_true, Bool.not_eq_true'] at hx
  obtain ⟨⟨⟨⟨⟨⟨⟨a1, a2⟩, a3⟩, a4⟩, a5⟩, a6⟩, a7⟩, a8⟩ := hx
  unfold pvWF pvWh pvWc
  rw [hf _ _ a1, hf _ _ a2, hf _ _ a3, pvfr_row hf a4, pvfr_row hf a5, pvfr_row hf a6, pvfr_row hf a7, pvfr_row hf a8]
  exact h
theorem pvWc_of {M : pvM} (h : pvWF M) {c : Int32} (h1 : 0 ≤ (M.1 124 15).toInt) (h2 : 10 * (M.1 124 15).toInt ≤ c.toInt) (h3 : c.toInt < 10 * (M.1 124 15).toInt + (M.1 133 (M.1 124 15).toNatClampNeg).toInt) (h4 : (M.1 134 c.toNatClampNeg).toInt < 2) : pvWc M c.toNatClampNeg := by
  have e1 := ztn (M.1 124 15) h1
  have e2 := ztn c (by omega)
  have e3 := h.1
  exact (h.2.2 (M.1 124 15).toNatClampNeg (by omega) _ (by omega) (by omega) h4).1
theorem zok_0 {f : Nat → Int32} {a n : Nat} (h : zok f a n) : ∀ k : Nat, k ≤ n → 0 ≤ zdep f a k
  | 0, _ => by show (0 : Int) ≤ 0; omega
  | k + 1, hk => by
    have ih := zok_0 h k (by omega)
    have h1 := h k (by omega)
    have h2 := zdep_s f a k
    by_cases c1 : (f (a + k)).toInt = -33
    · have := h2.1 c1; omega
    · by_cases c2 : (f (a + k)).toInt < 0
      · have := h2.2.1 c1 c2; have := h1.2 c1 c2; omega
      · have := h2.2.2 c1 c2; omega
def zhI (M : pvM) (c : Nat) (x y : Int32) : Prop := ∃ a b j : Nat, (M.1 136 c).toInt = (a : Int) ∧ (M.1 137 c).toInt = (b : Int) ∧ a ≤ b ∧ b ≤ 600 ∧ b ≤ a + 100 ∧ zok (M.1 138) a (b - a) ∧ y.toInt = ((a + j : Nat) : Int) ∧ a + j ≤ b ∧ x.toInt = zdep (M.1 138) a j
theorem zhI_0 {M : pvM} {c : Nat} (h : pvWc M c) : zhI M c 0 (M.1 136 c) := by
  obtain ⟨a, b, h1, h2, h3, h4, h5, h6⟩ := h
  exact ⟨a, b, 0, h1, h2, h3, h4, h5, h6, h1, h3, rfl⟩
theorem zhI_in {M : pvM} {c : Nat} {x y : Int32} (h : zhI M c x y) (hlt : y.toInt < (M.1 137 c).toInt) : (0 ≤ y.toInt ∧ y.toInt ≤ 599) ∧ (0 ≤ x.toInt ∧ x.toInt ≤ 99) ∧ ((M.1 138 y.toNatClampNeg).toInt = -33 → 1 ≤ x.toInt) ∧ (¬ (M.1 138 y.toNatClampNeg).toInt = -33 → (M.1 138 y.toNatClampNeg).toInt < 0 → 2 ≤ x.toInt) := by
  obtain ⟨a, b, j, h1, h2, h3, h4, h5, h6, h7, h8, h9⟩ := h
  have e : y.toNatClampNeg = a + j := znat h7
  rw [e, h9]
  have hj : j < b - a := by omega
  have := zdep_le (M.1 138) a j
  have := zok_0 h6 j (by omega)
  exact ⟨by omega, by omega, (h6 j hj).1, (h6 j hj).2⟩
theorem zhI_s {M : pvM} {c : Nat} {x y x' y' : Int32} (h : zhI M c x y) (hlt : y.toInt < (M.1 137 c).toInt) (hy : y'.toInt = y.toInt + 1) (h1 : (M.1 138 y.toNatClampNeg).toInt = -33 → x'.toInt = x.toInt) (h2 : ¬ (M.1 138 y.toNatClampNeg).toInt = -33 → (M.1 138 y.toNatClampNeg).toInt < 0 → x'.toInt = x.toInt - 1) (h3 : ¬ (M.1 138 y.toNatClampNeg).toInt = -33 → ¬ (M.1 138 y.toNatClampNeg).toInt < 0 → x'.toInt = x.toInt + 1) : zhI M c x' y' := by
  obtain ⟨a, b, j, g1, g2, g3, g4, g5, g6, g7, g8, g9⟩ := h
  have e : y.toNatClampNeg = a + j := znat g7
  rw [e] at h1 h2 h3
  have hd := zdep_s (M.1 138) a j
  refine ⟨a, b, j + 1, g1, g2, g3, g4, g5, g6, by omega, by omega, ?_⟩
  by_cases c1 : (M.1 138 (a + j)).toInt = -33
  · rw [hd.1 c1, h1 c1, g9]
  · by_cases c2 : (M.1 138 (a + j)).toInt < 0
    · rw [hd.2.1 c1 c2, h2 c1 c2, g9]
    · rw [hd.2.2 c1 c2, h3 c1 c2, g9]
theorem zhI_u {M X : pvM} {c k : Nat} {v x y : Int32} (e : X = pvu M 141 k v) (h : zhI M c x y) : zhI X c x y := by
  unfold zhI
  have r : ∀ q, q ≠ 141 → X.1 q = M.1 q := fun q hq => funext fun i => pvu_n e q i (Or.inl hq)
  rw [r 136 (by decide), r 137 (by decide), r 138 (by decide)]
  exact h
