/-! rows copied by loops, one by one -/
def zC1 (d s n : Nat) (M X : pvM) : Prop := ∀ i : Nat, i < n → X.1 d i = M.1 s i
theorem zC1_0 (d s : Nat) (M X : pvM) : zC1 d s (Int32.toNatClampNeg 0) M X := fun i h => absurd h (Nat.not_lt_zero _)
theorem zC1_u {d s n q k : Nat} {v : Int32} {M Y X : pvM} (h : zC1 d s n M Y) (e : X = pvu Y q k v) (ne : d ≠ q) : zC1 d s n M X := fun i hi => (pvu_n e d i (Or.inl ne)).trans (h i hi)
theorem zC1_w {d s n : Nat} {v : Int32} {M Y X : pvM} (h : zC1 d s n M Y) (e : X = pvu Y d n v) (hv : v = M.1 s n) : zC1 d s (n + 1) M X := by
  intro i hi
  by_cases c : i = n
  · subst c
    exact (pvu_s e).trans hv
  · exact (pvu_n e d i (Or.inr c)).trans (h i (by omega))
theorem zC1_n {d s n n' : Nat} {M X : pvM} (e : n' = n) (h : zC1 d s n M X) : zC1 d s n' M X := e ▸ h
theorem znp1 {x : Int32} {a b : Int} (h : a ≤ x.toInt ∧ x.toInt ≤ b) (ha : 0 ≤ a) (hb : b ≤ 1000) : Int32.toNatClampNeg (x + 1) = Int32.toNatClampNeg x + 1 := by
  have u1 : (1 : Int32).toInt = 1 := by decide
  show (x + 1).toInt.toNat = x.toInt.toNat + 1
  rw [zadd x 1 (by rw [u1]; omega) (by rw [u1]; omega), u1]
  omega
theorem znp0 {x : Int32} {n : Nat} (h : (n : Int) ≤ x.toInt ∧ x.toInt ≤ (n : Int)) : n = Int32.toNatClampNeg x := by
  show n = x.toInt.toNat
  omega
theorem zvnar {x : Int32} (h : 0 ≤ x.toInt ∧ x.toInt ≤ 1) : vp_nar .boolean x = x := by
  have u0 : (0 : Int32).toInt = 0 := by decide
  have u1 : (1 : Int32).toInt = 1 := by decide
  have e : x = 0 ∨ x = 1 := by
    rw [zi_eq, zi_eq, u0, u1]
    omega
  rcases e with rfl | rfl <;> rfl
theorem zD_c {a b c e : Nat} {M X : pvM} (h0 : zC1 a c 7 M X) (h1 : zC1 (a + 1) (c + 1) 7 M X) (h2 : zC1 (a + 2) (c + 2) 7 M X) (h3 : zC1 (a + 3) (c + 3) 7 M X) (h4 : zC1 (a + 4) (c + 4) 7 M X) (hr : zC1 b e 28 M X) : zD a b c e M X := by
  intro i hi
  refine ⟨fun f hf => ?_, fun j hj => hr _ (by omega)⟩
  match f, hf with
  | 0, _ => exact h0 i hi
  | 1, _ => exact h1 i hi
  | 2, _ => exact h2 i hi
  | 3, _ => exact h3 i hi
  | 4, _ => exact h4 i hi
  | f + 5, z => exact absurd z (by omega)
