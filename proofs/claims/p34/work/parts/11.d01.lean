/-! the trace: these bodies are noted behind those that ran -/
def zTr (tp tk ap : Nat) (L : List Int32) (M X : pvM) : Prop := (X.1 tp tk).toInt = (M.1 tp tk).toInt + L.length ∧ ∀ j : Nat, j < 20 → X.1 ap j = if (M.1 tp tk).toInt.toNat ≤ j ∧ j < (M.1 tp tk).toInt.toNat + L.length then L.getD (j - (M.1 tp tk).toInt.toNat) 0 else M.1 ap j
theorem zTr_0 (tp tk ap : Nat) (M : pvM) : zTr tp tk ap [] M M := by
  refine ⟨by simp, fun j hj => ?_⟩
  rw [if_neg (by simp only [List.length_nil]; omega)]
theorem zTr_c {tp tk ap : Nat} {L1 L2 : List Int32} {M Y X : pvM} (h0 : 0 ≤ (M.1 tp tk).toInt) (a : zTr tp tk ap L1 M Y) (b : zTr tp tk ap L2 Y X) : zTr tp tk ap (L1 ++ L2) M X := by
  obtain ⟨a1, a2⟩ := a
  obtain ⟨b1, b2⟩ := b
  refine ⟨by rw [b1, a1, List.length_append]; omega, fun j hj => ?_⟩
  have u : (Y.1 tp tk).toInt.toNat = (M.1 tp tk).toInt.toNat + L1.length := by omega
  rw [b2 j hj, u, a2 j hj, List.length_append]
  by_cases c : (M.1 tp tk).toInt.toNat + L1.length ≤ j ∧ j < (M.1 tp tk).toInt.toNat + L1.length + L2.length
  · rw [if_pos c, if_pos (by omega), List.getD_eq_getElem?_getD, List.getD_eq_getElem?_getD, List.getElem?_append_right (by omega)]
    congr 2
    omega
  · rw [if_neg c]
    by_cases d : (M.1 tp tk).toInt.toNat ≤ j ∧ j < (M.1 tp tk).toInt.toNat + L1.length
    · rw [if_pos d, if_pos (by omega), List.getD_eq_getElem?_getD, List.getD_eq_getElem?_getD, List.getElem?_append_left (by omega)]
    · rw [if_neg d, if_neg (by omega)]
theorem zTr_k {tp tk ap : Nat} {L : List Int32} {M Y X : pvM} (a : zTr tp tk ap L M Y) (k : X.1 tp tk = Y.1 tp tk) (kk : ∀ j : Nat, j < 20 → X.1 ap j = Y.1 ap j) : zTr tp tk ap L M X :=
  ⟨by rw [k]; exact a.1, fun j hj => by rw [kk j hj]; exact a.2 j hj⟩
theorem zTr_n {tp tk ap : Nat} {b : Int32} {M Y X : pvM} (ne : tp ≠ ap) (hr : 0 ≤ (M.1 tp tk).toInt ∧ (M.1 tp tk).toInt ≤ 999) (e1 : (20 ≤ M.1 tp tk ∧ Y = M) ∨ (¬ 20 ≤ M.1 tp tk ∧ Y = pvu M ap (Int32.toNatClampNeg (M.1 tp tk)) b)) (e2 : X = pvu Y tp tk (M.1 tp tk + 1)) : zTr tp tk ap [b] M X := by
  have u1 : (1 : Int32).toInt = 1 := by decide
  have u20 : (20 : Int32).toInt = 20 := by decide
  have s1 : (M.1 tp tk + 1).toInt = (M.1 tp tk).toInt + 1 := by rw [zadd _ _ (by rw [u1]; omega) (by rw [u1]; omega), u1]
  have c : X.1 tp tk = M.1 tp tk + 1 := pvu_s e2
  refine ⟨by rw [c, s1]; rfl, fun j hj => ?_⟩
  rw [pvu_n e2 ap j (Or.inl (Ne.symm ne))]
  have tn : Int32.toNatClampNeg (M.1 tp tk) = (M.1 tp tk).toInt.toNat := rfl
  rcases e1 with ⟨h, rfl⟩ | ⟨h, e1⟩
  · rw [zi_le, u20] at h
    rw [if_neg (by simp only [List.length_cons, List.length_nil]; omega)]
  · rw [zi_le, u20] at h
    by_cases d : j = (M.1 tp tk).toInt.toNat
    · subst d
      rw [if_pos (by simp only [List.length_cons, List.length_nil]; omega), Nat.sub_self, ← tn]
      exact pvu_s e1
    · rw [if_neg (by simp only [List.length_cons, List.length_nil]; omega)]
      exact pvu_n e1 ap j (Or.inr (by rw [tn]; exact d))
/-- all that is noted -/
def zTs (tp tk ap : Nat) (L : List Int32) (X : pvM) : Prop := (X.1 tp tk).toInt = L.length ∧ ∀ j : Nat, j < 20 → j < L.length → X.1 ap j = L.getD j 0
theorem zTs_r {tp tk ap : Nat} {L : List Int32} {Y X : pvM} (h : zTr tp tk ap L Y X) (z : Y.1 tp tk = 0) : zTs tp tk ap L X := by
  obtain ⟨a, b⟩ := h
  have u : (Y.1 tp tk).toInt = 0 := by rw [z]; decide
  rw [u] at a b
  refine ⟨by omega, fun j hj hl => ?_⟩
  have := b j hj
  rw [if_pos (by simpa using hl)] at this
  simpa using this
theorem zTs_0 {tp tk ap : Nat} {X : pvM} (z : X.1 tp tk = 0) : zTs tp tk ap [] X := ⟨by rw [z]; decide, fun j _ h => absurd h (Nat.not_lt_zero _)⟩
def zTk (tp tk ap : Nat) (M X : pvM) : Prop := X.1 tp tk = M.1 tp tk ∧ ∀ j : Nat, j < 20 → X.1 ap j = M.1 ap j
theorem zTk_r (tp tk ap : Nat) (M : pvM) : zTk tp tk ap M M := ⟨rfl, fun _ _ => rfl⟩
theorem zTk_fr {tp tk ap : Nat} {L : List (Nat × Nat × Nat)} {M X : pvM} (hf : pvFr (pvfp L) M X) (h : (!pvfp L tp tk && (List.range 20).all (fun j => !pvfp L ap j)) = true) : zTk tp tk ap M X := by
  rw [Bool.and_eq_true] at h
  refine ⟨hf tp tk (by simpa using h.1), fun j hj => hf ap j ?_⟩
  simpa using List.all_eq_true.mp h.2 j (List.mem_range.mpr hj)
def zPT (M : pvM) : Prop := M.1 3 1 = M.1 124 70 ∧ ∀ j : Nat, j < 20 → (j : Int) < (M.1 3 1).toInt → M.1 4 j = M.1 163 j
theorem zPT_k {M Y X : pvM} (h : zPT M) (a : zTk 3 1 4 M Y) (b : zTk 124 70 163 M Y) (a2 : zTk 3 1 4 Y X) (b2 : zTk 124 70 163 Y X) : zPT X := by
  refine ⟨by rw [a2.1, a.1, b2.1, b.1, h.1], fun j hj hl => ?_⟩
  rw [a2.1, a.1] at hl
  rw [a2.2 j hj, a.2 j hj, b2.2 j hj, b.2 j hj]
  exact h.2 j hj hl
theorem zPT_a {L : List Int32} {Y X : pvM} (a : zTs 3 1 4 L Y) (a2 : zTk 3 1 4 Y X) (b : zTs 124 70 163 L X) : zPT X := by
  have e : X.1 3 1 = X.1 124 70 := Int32.toInt_inj.mp (by rw [a2.1, a.1, b.1])
  refine ⟨e, fun j hj hl => ?_⟩
  rw [a2.1, a.1] at hl
  rw [a2.2 j hj, a.2 j hj (by omega), b.2 j hj (by omega)]
theorem zTr_e {tp tk ap : Nat} {T L : List Int32} {M X : pvM} (e : T = L) (h : zTr tp tk ap L M X) : zTr tp tk ap T M X := e ▸ h
theorem zTs_e {tp tk ap : Nat} {T L : List Int32} {X : pvM} (e : T = L) (h : zTs tp tk ap L X) : zTs tp tk ap T X := e ▸ h
theorem zTr_c0 {tp tk ap : Nat} {L : List Int32} {M Y X : pvM} (h0 : 0 ≤ (M.1 tp tk).toInt) (a : zTr tp tk ap [] M Y) (b : zTr tp tk ap L Y X) : zTr tp tk ap L M X := zTr_c (L1 := []) h0 a b
