/-! what writes no longs keeps them all -/
def pvM2 (X : Prop × pvS) : Nat → Nat → Int64 := X.2.2.2.2.2
theorem pvs2_put (b c d nx : Nat) (S : pvS) : pvM2 (pvs_put b c d nx S) = S.2.2.2.2 := by
  unfold pvs_put
  split
  · cases Nat.beq d 0
    · cases Nat.beq d 1000 <;> rfl
    · rfl
  · cases Nat.beq d 3000 <;> rfl
  · rfl
theorem pvs2_copy (nx : Nat) (S : pvS) : pvM2 (pvs_copy 0 nx S) = S.2.2.2.2 := by
  unfold pvs_copy
  split <;> rfl
theorem pvstep_2 (o : pvO) (S : pvS) (h1 : o.1 ≠ 21) (h2 : o.1 = 26 → o.2.2.1 = 0) : pvM2 (pvstep o S) = S.2.2.2.2 := by
  obtain ⟨op, a, b, c, d, v, nx⟩ := o
  unfold pvstep
  dsimp only at h1 h2 ⊢
  split
  case h_15 => exact pvs2_put b c d nx S
  case h_22 => exact absurd rfl h1
  case h_27 => rw [h2 rfl]; exact pvs2_copy nx S
  case h_2 =>
    unfold pvs_store
    split
    · cases (Nat.blt b 2 && pvok S.2.1 a) <;> rfl
    · cases (Nat.ble 4 b && pvok S.2.1 a && Nat.blt (a + 1) S.2.1.length) <;> rfl
    · cases (Nat.ble 2 b && Nat.blt b 4 && pvok S.2.1 a) <;> rfl
    · rfl
  case h_1 =>
    unfold pvs_load
    split
    · cases Nat.blt b 2 <;> rfl
    · cases Nat.ble 4 b <;> rfl
    · cases (Nat.ble 2 b && Nat.blt b 4) <;> rfl
    · rfl
  case h_11 =>
    unfold pvs_dup
    split
    · next v r _ => cases (!pvlg v) <;> rfl
    · rfl
  case h_12 =>
    unfold pvs_pop
    split
    · next v r _ => cases (!pvlg v) <;> rfl
    · rfl
  case h_13 =>
    unfold pvs_dup_x1
    split
    · next v w r _ => cases (!pvlg v && !pvlg w) <;> rfl
    · rfl
  case h_19 =>
    unfold pvs_rld
    split
    · next i q r _ => cases (Nat.ble 23 b && Nat.ble b 25) <;> rfl
    · rfl
  case h_23 =>
    unfold pvs_len
    split
    · next q r _ => cases (Nat.ble 20 b && Nat.ble b 25) <;> rfl
    · rfl
  case h_25 =>
    unfold pvs_iinc
    split
    · next x _ => cases (pvok S.2.1 a) <;> rfl
    · rfl
  case h_26 =>
    unfold pvs_math
    split
    · cases Nat.beq b 2
      · dsimp only [cond]
        split <;> rfl
      · rfl
    · rfl
  all_goals first
    | rfl
    | (unfold pvs_bin; split <;> rfl)
    | (unfold pvs_div; split <;> rfl)
    | (unfold pvs_un; split <;> rfl)
    | (unfold pvs_i2l; split <;> rfl)
    | (unfold pvs_l2i; split <;> rfl)
    | (unfold pvs_lcmp; split <;> rfl)
    | (unfold pvs_get; split <;> rfl)
    | (unfold pvs_ald; split <;> rfl)
    | (unfold pvs_zld; split <;> rfl)
    | (unfold pvs_lld; split <;> rfl)
    | (unfold pvs_ast; split <;> rfl)
    | (unfold pvs_zst; split <;> rfl)
    | (unfold pvs_sld; split <;> rfl)
    | (unfold pvs_slen; split <;> rfl)
theorem pvif_2 {b a nx : Nat} {S : pvS} {F : pvS → Prop} (h : pvif b a nx S F) : ∃ S' : pvS, F S' ∧ S'.2.2.2 = S.2.2.2 := by
  unfold pvif at h
  split at h
  · next x r _ => by_cases c : pvrel b x 0; exact ⟨_, h.1 c, rfl⟩; exact ⟨_, h.2 c, rfl⟩
  · exact h.elim
theorem pvic_2 {b a nx : Nat} {S : pvS} {F : pvS → Prop} (h : pvic b a nx S F) : ∃ S' : pvS, F S' ∧ S'.2.2.2 = S.2.2.2 := by
  unfold pvic at h
  split at h
  · next y x r _ => by_cases c : pvrel b x y; exact ⟨_, h.1 c, rfl⟩; exact ⟨_, h.2 c, rfl⟩
  · exact h.elim
theorem pvsw_2 {L : List (Int32 × Nat) × Nat} {S : pvS} {F : pvS → Prop} (h : pvsw L S F) : ∃ S' : pvS, F S' ∧ S'.2.2.2 = S.2.2.2 := by
  unfold pvsw at h
  split at h
  · obtain ⟨t, -, hF⟩ := h
    exact ⟨_, hF, rfl⟩
  · exact h.elim
theorem pvsx_2 {b nx : Nat} {S : pvS} {F : pvS → Prop} (h : pvsx b nx S F) : ∃ S' : pvS, F S' ∧ S'.2.2.2 = S.2.2.2 := by
  unfold pvsx at h
  split at h
  · exact ⟨_, h.2.2.2, rfl⟩
  · exact ⟨_, h.2.2.2, rfl⟩
  · exact ⟨_, h.2.2.2.2, rfl⟩
  · exact ⟨_, h.2.2.2.2.2, rfl⟩
  · exact h.elim
theorem pvret_2 {b : Nat} {S : pvS} {r : Option pvV} {M' : pvM} (h : pvret b S r M') : M' = S.2.2.2 := by
  unfold pvret at h
  split at h
  · exact h.2
  · exact h.2
  · exact h.2.2
  · exact h.2
  · exact h.2
  · exact h.elim
def pvno2 (L : List Nat) : Bool := L.all fun j => (pvdom j).all fun q => !Nat.beq q.2.1 21 && (!Nat.beq q.2.1 26 || Nat.beq q.2.2.2.1 0) && (!Nat.beq q.2.1 80 || L.contains q.2.2.2.1)
theorem pvEv_2 {L : List Nat} (hL : pvno2 L = true) : ∀ (n j d : Nat) (S : pvS) (r : Option pvV) (M' : pvM), j ∈ L → pvEv n j d S r M' → M'.2 = S.2.2.2.2
  | 0, _, _, _, _, _, _, h => h.elim
  | n + 1, j, d, S, r, M', hj, h => by
    obtain ⟨op, a, b, c, dd, v, nx, ho⟩ : ∃ op a b c dd v nx, pvlook (pvdom j) S.1 = (op, a, b, c, dd, v, nx) := ⟨_, _, _, _, _, _, _, rfl⟩
    have hin : op < 99 → (!Nat.beq op 21 && (!Nat.beq op 26 || Nat.beq b 0) && (!Nat.beq op 80 || L.contains b)) = true := by
      intro hop
      have h1 := pvlook_mem (pvdom j) S.1 (by rw [ho]; exact hop)
      rw [ho] at h1
      have h2 := List.all_eq_true.mp (List.all_eq_true.mp hL j hj) _ h1
      exact h2
    rcases pvE h ho with ⟨h1, h2, h3⟩ | ⟨h1, h2⟩ | ⟨h1, h2⟩ | ⟨h1, h2⟩ | ⟨h1, r1, M1, g1, g2, g3, g4, g5, g6, g7⟩ | ⟨h1, h2⟩ | ⟨h1, h2⟩
    · have hz := hin (by omega)
      simp only [Bool.and_eq_true, Bool.or_eq_true, Bool.not_eq_true'] at hz
      have e := pvEv_2 hL n j d _ r M' hj h3
      rw [e]
      refine pvstep_2 (op, a, b, c, dd, v, nx) S (fun z => ?_) (fun z => ?_)
      · have z : op = 21 := z
        subst z
        exact absurd hz.1.1 (by decide)
      · have z : op = 26 := z
        subst z
        rcases hz.1.2 with q | q
        · exact absurd q (by decide)
        · exact Nat.eq_of_beq_eq_true q
    · obtain ⟨S', hF, e⟩ := pvif_2 h2
      rw [pvEv_2 hL n j d _ r M' hj hF, e]
    · obtain ⟨S', hF, e⟩ := pvic_2 h2
      rw [pvEv_2 hL n j d _ r M' hj hF, e]
    · obtain ⟨S', hF, e⟩ := pvsw_2 h2
      rw [pvEv_2 hL n j d _ r M' hj hF, e]
    · have hz := hin (by omega)
      simp only [Bool.and_eq_true, Bool.or_eq_true, Bool.not_eq_true'] at hz
      subst h1
      have hb : b ∈ L := by
        rcases hz.2 with q | q
        · exact absurd q (by decide)
        · exact List.contains_iff_mem.mp q
      rw [pvEv_2 hL n j d _ r M' hj g7]
      have e := pvEv_2 hL n b _ _ r1 M1 hb g6
      exact e
    · obtain ⟨S', hF, e⟩ := pvsx_2 h2
      rw [pvEv_2 hL n j d _ r M' hj hF, e]
    · rw [pvret_2 h2]
theorem pw_2 {L : List Nat} (hL : pvno2 L = true) {j d pc : Nat} {lo : List (Option pvV)} {st : List pvV} {M : pvM} {Q : Option pvV → pvM → Prop} (hj : L.contains j = true) (h : PW j d (pc, lo, st, M) Q) : PW j d (pc, lo, st, M) (fun r X => Q r X ∧ X.2 = M.2) := by
  obtain ⟨n, r, M', hE, hQ⟩ := h
  exact ⟨n, r, M', hE, hQ, pvEv_2 hL n j d _ r M' (List.contains_iff_mem.mp hj) hE⟩
