theorem zta {a b : Int32} (ha : 0 ≤ a.toInt ∧ a.toInt ≤ 1000) (hb : 0 ≤ b.toInt ∧ b.toInt ≤ 1000) : Int32.toNatClampNeg (a + b) = Int32.toNatClampNeg a + Int32.toNatClampNeg b := by
  have e : (a + b).toInt = a.toInt + b.toInt := zadd _ _ (by omega) (by omega)
  have h1 := ztn a ha.1
  have h2 := ztn b hb.1
  have h3 := ztn (a + b) (by omega)
  omega
theorem zLet_r {M X : pvM} (h : zLet M) (r : X.1 140 = M.1 140) : zLet X := fun i hi => by
  rw [r]
  exact h i hi
theorem zEv_z {M Z : pvM} {t : Int32} (h : t = 0) (k : zEv M Z 0) : zEv M Z t := h ▸ k
theorem zplc (c : Int32) : (if c = 102 then (2 : Int32) else if c = 107 then 1 else if c = 114 then 3 else if c = 115 then 4 else if c = 116 then 5 else if c = 119 then 0 else -1) = zlf c := by
  unfold zlf
  by_cases k1 : c = 119
  · subst k1; decide
  by_cases k2 : c = 107
  · subst k2; decide
  by_cases k3 : c = 102
  · subst k3; decide
  by_cases k4 : c = 114
  · subst k4; decide
  by_cases k5 : c = 115
  · subst k5; decide
  by_cases k6 : c = 116
  · subst k6; decide
  simp only [if_neg k1, if_neg k2, if_neg k3, if_neg k4, if_neg k5, if_neg k6]
theorem zQE_0 {c : Nat} {x : Int32} {M X : pvM} (h : zQE c (some (pvI x)) M X) (e : x = 0) : zQE c (some (pvI 0)) M X := e ▸ h
theorem zQE_1 {c : Nat} {x : Int32} {M X : pvM} (h : zQE c (some (pvI x)) M X) (n : ¬ x = 0) : zQE c (some (pvI 1)) M X := by
  obtain ⟨a, b, L, e, k⟩ := h
  have e : x = bif b then 1 else 0 := Sum.inl.inj (Option.some.inj e)
  cases b
  · exact absurd e n
  · exact ⟨a, true, L, rfl, k⟩
