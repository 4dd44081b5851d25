theorem zOm9_rs {d k : Nat} {M Y : pvM} (hs : zRs M) (h : zOm9 d k M Y) : zRs Y := zKh_p hs h.1.1 h.1.2.1 (by have := h.1.2.2.1; omega)
theorem zOp9_rs {d k : Nat} {M Y : pvM} (hs : zRs M) (h : zOp9 d k M Y) : zRs Y := zKh_p hs h.1 h.2.1 (by have := h.2.2.1; omega)
theorem zLO9_q {d n : Nat} {M Y : pvM} (h : zLO9 d n M Y) : zRq Y := by
  obtain ⟨L, a, _⟩ := h
  exact a.1
theorem zLB9_q {d n : Nat} {M Y : pvM} (h : zLB9 d n M Y) : zRq Y := by
  obtain ⟨L, a, _⟩ := h
  exact a.1
theorem zi_nle {a b : Int32} (h : ¬ b ≤ a) : a < b := by
  rw [zi_le] at h
  rw [zi_lt]
  omega
theorem zi_nlt {a b : Int32} (h : b ≤ a) : ¬ a < b := by
  rw [zi_le] at h
  rw [zi_lt]
  omega
