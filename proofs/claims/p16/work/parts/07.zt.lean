/-! the tables hold -/
set_option maxRecDepth 100000 in
theorem pvtb_0 : ((List.range 12).all fun i => (pvdom (i + 0)).all fun q => pvchk (i + 0) q.1 q.2) = true := by decide +kernel
set_option maxRecDepth 100000 in
theorem pvtb_12 : ((List.range 12).all fun i => (pvdom (i + 12)).all fun q => pvchk (i + 12) q.1 q.2) = true := by decide +kernel
set_option maxRecDepth 100000 in
theorem pvtb_24 : ((List.range 12).all fun i => (pvdom (i + 24)).all fun q => pvchk (i + 24) q.1 q.2) = true := by decide +kernel
set_option maxRecDepth 100000 in
theorem pvtb_36 : ((List.range 12).all fun i => (pvdom (i + 36)).all fun q => pvchk (i + 36) q.1 q.2) = true := by decide +kernel
set_option maxRecDepth 100000 in
theorem pvtb_48 : ((List.range 12).all fun i => (pvdom (i + 48)).all fun q => pvchk (i + 48) q.1 q.2) = true := by decide +kernel
set_option maxRecDepth 100000 in
theorem pvtb_60 : ((List.range 12).all fun i => (pvdom (i + 60)).all fun q => pvchk (i + 60) q.1 q.2) = true := by decide +kernel
set_option maxRecDepth 100000 in
theorem pvtb_72 : ((List.range 12).all fun i => (pvdom (i + 72)).all fun q => pvchk (i + 72) q.1 q.2) = true := by decide +kernel
set_option maxRecDepth 100000 in
theorem pvtb_84 : ((List.range 12).all fun i => (pvdom (i + 84)).all fun q => pvchk (i + 84) q.1 q.2) = true := by decide +kernel
set_option maxRecDepth 100000 in
theorem pvtb_96 : ((List.range 12).all fun i => (pvdom (i + 96)).all fun q => pvchk (i + 96) q.1 q.2) = true := by decide +kernel
set_option maxRecDepth 100000 in
theorem pvtb_108 : ((List.range 12).all fun i => (pvdom (i + 108)).all fun q => pvchk (i + 108) q.1 q.2) = true := by decide +kernel
set_option maxRecDepth 100000 in
theorem pvtb_120 : ((List.range 12).all fun i => (pvdom (i + 120)).all fun q => pvchk (i + 120) q.1 q.2) = true := by decide +kernel
set_option maxRecDepth 100000 in
theorem pvtb_132 : ((List.range 12).all fun i => (pvdom (i + 132)).all fun q => pvchk (i + 132) q.1 q.2) = true := by decide +kernel
set_option maxRecDepth 100000 in
theorem pvtb_144 : ((List.range 12).all fun i => (pvdom (i + 144)).all fun q => pvchk (i + 144) q.1 q.2) = true := by decide +kernel
set_option maxRecDepth 100000 in
theorem pvtb_156 : ((List.range 12).all fun i => (pvdom (i + 156)).all fun q => pvchk (i + 156) q.1 q.2) = true := by decide +kernel
set_option maxRecDepth 100000 in
theorem pvtb_168 : ((List.range 12).all fun i => (pvdom (i + 168)).all fun q => pvchk (i + 168) q.1 q.2) = true := by decide +kernel
set_option maxRecDepth 100000 in
theorem pvtb_180 : ((List.range 12).all fun i => (pvdom (i + 180)).all fun q => pvchk (i + 180) q.1 q.2) = true := by decide +kernel
set_option maxRecDepth 100000 in
theorem pvtb_192 : ((List.range 12).all fun i => (pvdom (i + 192)).all fun q => pvchk (i + 192) q.1 q.2) = true := by decide +kernel
set_option maxRecDepth 100000 in
theorem pvtb_204 : ((List.range 9).all fun i => (pvdom (i + 204)).all fun q => pvchk (i + 204) q.1 q.2) = true := by decide +kernel
theorem pvtb_at {a n j : Nat} (h : ((List.range n).all fun i => (pvdom (i + a)).all fun q => pvchk (i + a) q.1 q.2) = true) (h1 : a ≤ j) (h2 : j < a + n) {q : Nat × pvO} (hq : q ∈ pvdom j) : pvchk j q.1 q.2 = true := by
  have h3 := List.all_eq_true.mp h (j - a) (List.mem_range.mpr (by omega))
  rw [show j - a + a = j by omega] at h3
  exact List.all_eq_true.mp h3 q hq
theorem pvtab : pvTab := by
  intro j pc o h
  by_cases hj : 213 ≤ j
  · exfalso
    have e : pvdom j = [] := by
      unfold pvdom
      rw [List.getD_eq_getElem?_getD, List.getElem?_eq_none (by exact hj)]
      rfl
    rw [e] at h
    cases h
  by_cases h0 : j < 12
  · exact pvtb_at pvtb_0 (by omega) (by omega) h
  by_cases h12 : j < 24
  · exact pvtb_at pvtb_12 (by omega) (by omega) h
  by_cases h24 : j < 36
  · exact pvtb_at pvtb_24 (by omega) (by omega) h
  by_cases h36 : j < 48
  · exact pvtb_at pvtb_36 (by omega) (by omega) h
  by_cases h48 : j < 60
  · exact pvtb_at pvtb_48 (by omega) (by omega) h
  by_cases h60 : j < 72
  · exact pvtb_at pvtb_60 (by omega) (by omega) h
  by_cases h72 : j < 84
  · exact pvtb_at pvtb_72 (by omega) (by omega) h
  by_cases h84 : j < 96
  · exact pvtb_at pvtb_84 (by omega) (by omega) h
  by_cases h96 : j < 108
  · exact pvtb_at pvtb_96 (by omega) (by omega) h
  by_cases h108 : j < 120
  · exact pvtb_at pvtb_108 (by omega) (by omega) h
  by_cases h120 : j < 132
  · exact pvtb_at pvtb_120 (by omega) (by omega) h
  by_cases h132 : j < 144
  · exact pvtb_at pvtb_132 (by omega) (by omega) h
  by_cases h144 : j < 156
  · exact pvtb_at pvtb_144 (by omega) (by omega) h
  by_cases h156 : j < 168
  · exact pvtb_at pvtb_156 (by omega) (by omega) h
  by_cases h168 : j < 180
  · exact pvtb_at pvtb_168 (by omega) (by omega) h
  by_cases h180 : j < 192
  · exact pvtb_at pvtb_180 (by omega) (by omega) h
  by_cases h192 : j < 204
  · exact pvtb_at pvtb_192 (by omega) (by omega) h
  by_cases h204 : j < 213
  · exact pvtb_at pvtb_204 (by omega) (by omega) h
  omega
