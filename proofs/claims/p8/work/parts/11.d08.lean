/-! a text of the class's reader -/
theorem zq_r {q : Nat} (h : pvkl q = 2) : 15 ≤ q ∧ q ≤ 23 := pvhp_r0 q (pvkl_lt h (by decide)) h
theorem zq_n {q : Nat} (h : pvkl q = 2) : pvhp (nI q) = q := by
  have r := zq_r h
  exact znat (nI_toInt (by omega))
def zpB (M : pvM) (q : Nat) : pvM := pvu (pvu (pvu (pvu M q 0 2) q 1 15) q 2 0) q 5 0
theorem zpB_o {M : pvM} {q a b : Nat} (h : a ≠ q) : (zpB M q).1 a b = M.1 a b := by
  unfold zpB
  rw [pvu_n rfl a b (Or.inl h), pvu_n rfl a b (Or.inl h), pvu_n rfl a b (Or.inl h), pvu_n rfl a b (Or.inl h)]
theorem zpB_c {M : pvM} {q : Nat} : (zpB M q).1 q 0 = 2 ∧ (zpB M q).1 q 1 = 15 ∧ (zpB M q).1 q 2 = 0 ∧ (zpB M q).1 q 5 = 0 := by
  unfold zpB
  refine ⟨?_, ?_, ?_, pvu_s rfl⟩
  · rw [pvu_n rfl q 0 (Or.inr (by decide)), pvu_n rfl q 0 (Or.inr (by decide)), pvu_n rfl q 0 (Or.inr (by decide))]
    exact pvu_s rfl
  · rw [pvu_n rfl q 1 (Or.inr (by decide)), pvu_n rfl q 1 (Or.inr (by decide))]
    exact pvu_s rfl
  · rw [pvu_n rfl q 2 (Or.inr (by decide))]
    exact pvu_s rfl
/-- what stays as a text is read into a HOUSE -/
def zHy (q : Nat) (M X : pvM) : Prop := X.1 6 1 = M.1 6 1 ∧ (∀ i : Nat, X.1 7 i = M.1 7 i) ∧ ∀ a b : Nat, 15 ≤ a → a < 51 → ¬ zin q a → X.1 a b = M.1 a b
theorem zHy_s {q : Nat} {M X : pvM} (h : zHy q M X) : zs9 X = zs9 M := zs9_k h.1 h.2.1
theorem zHy_t {q : Nat} {M Y X : pvM} (h : zHy q M Y) (e : zq9 Y = q) (k : zHx Y X) : zHy q M X := ⟨k.1.trans h.1, fun i => (k.2.2.1 i).trans (h.2.1 i), fun a b h1 h2 h3 => (k.2.2.2 a b h1 h2 (by rw [e]; exact h3)).trans (h.2.2 a b h1 h2 h3)⟩
def zTI (q : Nat) (r : Option pvV) (M X : pvM) : Prop := zRq X ∧ zHy q M X ∧ ∃ (b : Bool) (S : List (Nat × Int32 × List Int32)), r = some (pvI (bif b then 1 else 0)) ∧ zTX (zs9 M) 9 0 b (zP9 X) S ∧ (b = true → zHC X q S)
def zLI (q k : Nat) (M Y : pvM) : Prop := zRs Y ∧ zq9 Y = q ∧ zHy q M Y ∧ ∃ S : List (Nat × Int32 × List Int32), S.length = k ∧ zHC Y q S ∧ ∀ (b : Bool) (q' : Nat) (S' : List (Nat × Int32 × List Int32)), zTX (zs9 M) (9 - k) (zP9 Y) b q' S' → zTX (zs9 M) 9 0 b q' (S ++ S')
theorem zLI_0 {q : Nat} {M M1 M2 M3 Y : pvM} (hq : pvkl q = 2) (e1 : M1 = pvu M 6 4 (nI q)) (e2 : M2 = zpB M1 q) (e3 : M3 = pvu M2 6 2 (-1)) (g : zGo M3 Y) : zLI q (Int32.toNatClampNeg 1 - 1) M Y := by
  have r := zq_r hq
  obtain ⟨g1, g2, g3⟩ := g
  subst e2
  have a2 : Y.1 6 2 = 0 := by rw [g2, pvu_s e3]; decide
  have a4 : Y.1 6 4 = nI q := by rw [g3.2.1, pvu_n e3 6 4 (Or.inr (by decide)), zpB_o (by omega)]; exact pvu_s e1
  have qe : zq9 Y = q := by unfold zq9; rw [a4]; exact zq_n hq
  have c0 : ∀ b, Y.1 q b = (zpB M1 q).1 q b := fun b => (g3.2.2 q b (by omega)).trans (pvu_n e3 q b (Or.inl (by omega)))
  have z := zpB_c (M := M1) (q := q)
  have p : zP9 Y = 0 := by unfold zP9; rw [a2]; decide
  have o : zHy q M Y := ⟨by rw [g3.1, pvu_n e3 6 1 (Or.inr (by decide)), zpB_o (by omega)]; exact pvu_n e1 6 1 (Or.inr (by decide)), fun i => by rw [g3.2.2 7 i (by decide), pvu_n e3 7 i (Or.inl (by decide)), zpB_o (by omega)]; exact pvu_n e1 7 i (Or.inl (by decide)), fun a b h1 h2 h3 => by rw [g3.2.2 a b (by omega), pvu_n e3 a b (Or.inl (by omega)), zpB_o (fun y => h3 (Or.inl y))]; exact pvu_n e1 a b (Or.inl (by omega))⟩
  have y5 : Y.1 q 5 = 0 := (c0 5).trans z.2.2.2
  refine ⟨⟨g1, by rw [qe]; exact r, ?_⟩, qe, o, [], rfl, ?_, fun b q' S' h => ?_⟩
  · rw [qe, y5, a2]
    decide
  · refine ⟨(c0 0).trans z.1, (c0 1).trans z.2.1, by rw [c0 2, z.2.2.1]; rfl, by rw [y5]; rfl, fun i x k => ?_⟩
    exact absurd k (by simp [zcs])
  · rw [p] at h
    exact h
theorem zLI_n {q k k' : Nat} {M X : pvM} (e : k' = k) (h : zLI q k M X) : zLI q k' M X := e ▸ h
theorem zTX_s {σ : Nat → Int32} {f p q : Nat} {b : Bool} {S : List (Nat × Int32 × List Int32)} (h : zTXs σ (match f with | 0 => fun _ _ _ _ => False | f + 1 => zTX σ f) (decide (0 < f)) p b q S) : zTX σ f p b q S := by
  cases f with
  | zero => exact h
  | succ f => exact h
theorem zTI_1 {q k : Nat} {x : Int32} {M Y X : pvM} (h : zLI q k M Y) (d : zCd (some (pvI x)) Y X) (c : x = 0) : zTI q (some (pvI 0)) M X := by
  obtain ⟨h1, h2, h3, S, h4, h5, h6⟩ := h
  obtain ⟨a1, a2, b, w, n, L, e, a3, a4⟩ := d
  have e : x = bif b then 1 else 0 := Sum.inl.inj (Option.some.inj e)
  have hb : b = false := by
    cases b
    · rfl
    · rw [c] at e; exact absurd e (by decide)
  subst hb
  rw [zHy_s h3] at a3
  exact ⟨a1, zHy_t h3 h2 a2, false, S ++ [], rfl, h6 false (zP9 X) [] (zTX_s ⟨false, zP9 X, w, n, L, a3, by rw [if_pos rfl]; exact ⟨rfl, rfl⟩⟩), fun z => absurd z (by decide)⟩
/-- a clause is read -/
theorem zLI_c {q k : Nat} {x : Int32} {M Y X : pvM} (h : zLI q k M Y) (d : zCd (some (pvI x)) Y X) (c : ¬ x = 0) (hk : k ≤ 9) : zRs X ∧ zq9 X = q ∧ zHy q M X ∧ ∃ (S : List (Nat × Int32 × List Int32)) (w : Nat) (n : Int32) (L : List Int32), S.length = k ∧ zHC X q (S ++ [(w, n, L)]) ∧ zCl (zs9 M) (zP9 Y) true (zP9 X) w n L ∧ ∀ (b : Bool) (q' : Nat) (S' : List (Nat × Int32 × List Int32)), zTX (zs9 M) (9 - k) (zP9 Y) b q' S' → zTX (zs9 M) 9 0 b q' (S ++ S') := by
  obtain ⟨h1, h2, h3, S, h4, h5, h6⟩ := h
  obtain ⟨a1, a2, b, w, n, L, e, a3, a4⟩ := d
  have e : x = bif b then 1 else 0 := Sum.inl.inj (Option.some.inj e)
  have hb : b = true := by
    cases b
    · exact absurd e c
    · rfl
  subst hb
  obtain ⟨a4, a5⟩ := a4 rfl
  rw [zHy_s h3] at a3
  rw [h2] at a4 a5
  have q2 : zq9 X = q := (zHx_q a2).trans h2
  exact ⟨⟨a1, by rw [zHx_q a2]; exact h1.2.1, by rw [q2]; exact a4⟩, q2, zHy_t h3 h2 a2, S, w, n, L, h4, a5 S (by omega) h5, a3, h6⟩
theorem zTI_2 {q k : Nat} {x : Int32} {M Y X : pvM} (h : zLI q k M Y) (d : zCd (some (pvI x)) Y X) (c : ¬ x = 0) (hk : k ≤ 9) (e : X.1 6 3 = -1) : zTI q (some (pvI 1)) M X := by
  obtain ⟨h1, h2, h3, S, w, n, L, h4, h5, h6, h7⟩ := zLI_c h d c hk
  have s := h1.1.2.symm.trans e
  rw [zHy_s h3] at s
  exact ⟨h1.1, h3, true, _, rfl, h7 true (zP9 X) [(w, n, L)] (zTX_s ⟨true, zP9 X, w, n, L, h6, by rw [if_neg (by decide), if_pos s]; exact ⟨rfl, rfl, rfl⟩⟩), fun _ => h5⟩
theorem zTI_3 {q k : Nat} {x : Int32} {M Y X : pvM} (h : zLI q k M Y) (d : zCd (some (pvI x)) Y X) (c : ¬ x = 0) (hk : k = 9) (e : ¬ X.1 6 3 = -1) : zTI q (some (pvI 0)) M X := by
  obtain ⟨h1, h2, h3, S, w, n, L, h4, h5, h6, h7⟩ := zLI_c h d c (by omega)
  rw [h1.1.2, zHy_s h3] at e
  subst hk
  exact ⟨h1.1, h3, false, _, rfl, h7 false (zP9 X) [] (zTX_s ⟨true, zP9 X, w, n, L, h6, by rw [if_neg (by decide), if_neg e, if_neg (fun z => absurd z.1 (by decide))]; exact ⟨rfl, rfl⟩⟩), fun z => absurd z (by decide)⟩
theorem zTI_4 {q k : Nat} {x y : Int32} {M Y A X : pvM} (h : zLI q k M Y) (d : zCd (some (pvI x)) Y A) (c : ¬ x = 0) (hk : k < 9) (e : ¬ A.1 6 3 = -1) (d2 : zRb (zTsg 59) (some (pvI y)) A X) : (y = 0 → zTI q (some (pvI 0)) M X) ∧ (¬ y = 0 → zLI q (k + 1) M X) := by
  obtain ⟨h1, h2, h3, S, w, n, L, h4, h5, h6, h7⟩ := zLI_c h d c (by omega)
  rw [h1.1.2, zHy_s h3] at e
  obtain ⟨f, hf⟩ : ∃ f, 9 - k = f + 1 := ⟨8 - k, by omega⟩
  refine ⟨fun u => ?_, fun u => ?_⟩
  · obtain ⟨b1, b2, b3⟩ := zRb_n d2 u
    obtain ⟨f1, f2⟩ := zTsg_n b3
    rw [zHy_s h3] at f1
    refine ⟨b1, zHy_t h3 h2 (zHx_k b2), false, _, rfl, h7 false (zP9 X) [] (zTX_s ⟨true, zP9 A, w, n, L, h6, ?_⟩), fun z => absurd z (by decide)⟩
    rw [if_neg (by decide), if_neg e, if_neg (fun z => f1 z.2)]
    exact ⟨rfl, f2⟩
  · obtain ⟨b1, b2, b3⟩ := zRb_y d2 u
    obtain ⟨f1, f2⟩ := zTsg_y b3
    rw [zHy_s h3] at f1
    refine ⟨zKh_p h1 b1 b2 (by omega), (zKh_q b2).trans h2, zHy_t h3 h2 (zHx_k b2), S ++ [(w, n, L)], by rw [List.length_append, h4]; rfl, zHC_k h5 (fun a b z => b2.2.2 a b ?_), fun b q' S' t => ?_⟩
    · have := h1.2.1
      rw [h2] at this
      rcases z with z | z | z | z <;> omega
    · rw [List.append_assoc]
      refine h7 b q' _ ?_
      rw [f2, show 9 - (k + 1) = f by omega] at t
      rw [hf]
      refine ⟨true, zP9 A, w, n, L, h6, ?_⟩
      rw [if_neg (by decide), if_neg e, if_pos ⟨rfl, f1⟩]
      exact ⟨S', t, rfl⟩
