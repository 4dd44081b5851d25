/-! a clause, a text of the class's reader -/
theorem pw_callRe {j d : Nat} {Q : Option pvV → pvM → Prop} {L : List (Nat × pvO)} {pc a b c dd nx d1 : Nat} {lo lo1 : List (Option pvV)} {st rest as : List pvV} {M : pvM} {W : Nat} (hT : pvdom j = L) (ho : pvlook L pc = (80, a, b, c, dd, 0, nx)) (hst : st.take c = as.reverse) (hrest : st.drop c = rest) (hlen : Nat.ble rest.length 4 = true) (hcl : Nat.ble c st.length = true) (hr : dd % 2 = 1 → pvrcv b as) (hd : dd / 2 ≤ d) (hd1 : d - dd / 2 = d1) (hsl : Nat.ble (pvsl as).length (pvml b) = true) (hlo : pvent (pvml b) as = lo1)
    (h1 : PW b d1 (0, lo1, [], M) (fun r X => (∃ q : Nat, r = some (pvR q) ∧ q = W) ∧ X = M)) (k : PW j d (nx, lo, pvR W :: rest, M) Q) : PW j d (pc, lo, st, M) Q :=
  pw_call hT ho hst hrest hlen hcl hr hd hd1 hsl hlo h1 (fun r1 M1 h => by obtain ⟨⟨x, rfl, rfl⟩, rfl⟩ := h; exact k)
def zwf (c : Int32) : Nat := if c = 100 then 1011 else if c = 108 then 1013 else if c = 115 then 1012 else if c = 119 then 1010 else 1014
theorem zwf_r (c : Int32) : 1010 ≤ zwf c ∧ zwf c < 1017 := by
  unfold zwf
  repeat' split
  all_goals omega
theorem zwf_e {s : Int32} (c : ¬ (if zsl.getD (zwf s - 1010) 0 = 0 then (1 : Int32) else 0) = 0) : zhw s = none := by
  unfold zwf at c
  unfold zhw
  by_cases h1 : s = 100
  · rw [if_pos h1] at c; exact absurd (by decide) c
  by_cases h2 : s = 108
  · rw [if_neg h1, if_pos h2] at c; exact absurd (by decide) c
  by_cases h3 : s = 115
  · rw [if_neg h1, if_neg h2, if_pos h3] at c; exact absurd (by decide) c
  by_cases h4 : s = 119
  · rw [if_neg h1, if_neg h2, if_neg h3, if_pos h4] at c; exact absurd (by decide) c
  rw [if_neg h4, if_neg h1, if_neg h3, if_neg h2]
theorem zwf_w {s : Int32} (c : (if zsl.getD (zwf s - 1010) 0 = 0 then (1 : Int32) else 0) = 0) : ∃ w : Nat, zhw s = some (w, zsb.getD (zwf s - 1010) []) ∧ (w = 2 ↔ s = 115) ∧ (w = 3 ↔ s = 108) ∧ (w = 0 ↔ s = 119) ∧ w < 4 := by
  unfold zwf at c ⊢
  unfold zhw
  by_cases h1 : s = 100
  · subst h1; exact ⟨1, by decide, by decide, by decide, by decide, by decide⟩
  by_cases h2 : s = 108
  · subst h2; exact ⟨3, by decide, by decide, by decide, by decide, by decide⟩
  by_cases h3 : s = 115
  · subst h3; exact ⟨2, by decide, by decide, by decide, by decide, by decide⟩
  by_cases h4 : s = 119
  · subst h4; exact ⟨0, by decide, by decide, by decide, by decide, by decide⟩
  rw [if_neg h1, if_neg h2, if_neg h3, if_neg h4] at c
  exact absurd c (by decide)
theorem zwd_le {σ : Nat → Int32} : ∀ {l : List Int32} {p q : Nat} {b : Bool}, zwd σ l p = (b, q) → p ≤ q
  | [], p, q, b, h => by
    have := (Prod.mk.inj h).2
    omega
  | c :: l, p, q, b, h => by
    unfold zwd at h
    by_cases k : σ p = c
    · rw [if_pos k] at h
      have := zwd_le h
      omega
    · rw [if_neg k] at h
      have := (Prod.mk.inj h).2
      omega
/-- the texts' clauses, as a HOUSE of the class keeps them -/
def zcs (S : List (Nat × Int32 × List Int32)) : List (Nat × Int32 × List Int32) := S.filter (fun x => decide (x.1 < 2))
def zlst (w : Nat) : Int32 → List (Nat × Int32 × List Int32) → Int32
  | d, [] => d
  | d, x :: S => zlst w (if x.1 = w then x.2.1 else d) S
theorem zlst_a (w : Nat) : ∀ (d : Int32) (S : List (Nat × Int32 × List Int32)) (x : Nat × Int32 × List Int32), zlst w d (S ++ [x]) = if x.1 = w then x.2.1 else zlst w d S
  | _, [], _ => rfl
  | d, y :: S, x => zlst_a w (if y.1 = w then y.2.1 else d) S x
def zam (x : Nat × Int32 × List Int32) : Int32 := if x.1 = 0 then x.2.1 else -x.2.1
def zsl9 (M : pvM) (q a b : Nat) : List Int32 := (List.range (b - a)).map (fun j => M.1 (q + 27) (a + j))
def zlo9 (M : pvM) (q i : Nat) : Nat := if i = 0 then 0 else Int32.toNatClampNeg (M.1 (q + 18) (i - 1))
def zHC (M : pvM) (q : Nat) (S : List (Nat × Int32 × List Int32)) : Prop := M.1 q 0 = zlst 2 2 S ∧ M.1 q 1 = zlst 3 15 S ∧ (M.1 q 2).toInt = ((zcs S).length : Int) ∧ zlo9 M q (zcs S).length = Int32.toNatClampNeg (M.1 q 5) ∧ ∀ (i : Nat) (x : Nat × Int32 × List Int32), (zcs S)[i]? = some x → M.1 (q + 9) i = zam x ∧ zlo9 M q i ≤ zlo9 M q (i + 1) ∧ zlo9 M q (i + 1) ≤ Int32.toNatClampNeg (M.1 q 5) ∧ zSem 11 (zsl9 M q (zlo9 M q i) (zlo9 M q (i + 1))) x.2.2
theorem zsl9_c {M X : pvM} {q a b : Nat} (h : ∀ j : Nat, j < b → X.1 (q + 27) j = M.1 (q + 27) j) : zsl9 X q a b = zsl9 M q a b := by
  unfold zsl9
  refine List.map_congr_left (fun j hj => ?_)
  have := List.mem_range.mp hj
  exact h _ (by omega)
theorem zlo9_c {M X : pvM} {q i : Nat} (h : ∀ j : Nat, j < i → X.1 (q + 18) j = M.1 (q + 18) j) : zlo9 X q i = zlo9 M q i := by
  unfold zlo9
  by_cases c : i = 0
  · rw [if_pos c, if_pos c]
  · rw [if_neg c, if_neg c, h _ (by omega)]
/-- all cells of the HOUSE as they were -/
theorem zHC_k {M X : pvM} {q : Nat} {S : List (Nat × Int32 × List Int32)} (h : zHC M q S) (k : ∀ a b : Nat, zin q a → X.1 a b = M.1 a b) : zHC X q S := by
  have h0 : ∀ b, X.1 q b = M.1 q b := fun b => k q b (Or.inl rfl)
  have h9 : ∀ b, X.1 (q + 9) b = M.1 (q + 9) b := fun b => k _ b (Or.inr (Or.inl rfl))
  have h18 : ∀ b, X.1 (q + 18) b = M.1 (q + 18) b := fun b => k _ b (Or.inr (Or.inr (Or.inl rfl)))
  have h27 : ∀ b, X.1 (q + 27) b = M.1 (q + 27) b := fun b => k _ b (Or.inr (Or.inr (Or.inr rfl)))
  have lo : ∀ i, zlo9 X q i = zlo9 M q i := fun i => zlo9_c (fun j _ => h18 j)
  obtain ⟨a1, a2, a3, a4, a5⟩ := h
  refine ⟨by rw [h0]; exact a1, by rw [h0]; exact a2, by rw [h0]; exact a3, by rw [h0, lo]; exact a4, fun i x e => ?_⟩
  rw [lo, lo, h9, h0, zsl9_c (fun j _ => h27 j)]
  exact a5 i x e
theorem zcs_2 (S : List (Nat × Int32 × List Int32)) {w : Nat} (n : Int32) (L : List Int32) (h : ¬ w < 2) : zcs (S ++ [(w, n, L)]) = zcs S := by
  unfold zcs
  rw [List.filter_append, List.filter_cons_of_neg (by simpa using h), List.filter_nil, List.append_nil]
theorem zcs_1 (S : List (Nat × Int32 × List Int32)) {w : Nat} (n : Int32) (L : List Int32) (h : w < 2) : zcs (S ++ [(w, n, L)]) = zcs S ++ [(w, n, L)] := by
  unfold zcs
  rw [List.filter_append, List.filter_cons_of_pos (by simpa using h), List.filter_nil]
theorem zcs_l (S : List (Nat × Int32 × List Int32)) : (zcs S).length ≤ S.length := List.length_filter_le _ _
/-- a stair, a last -/
theorem zHC_s {M X : pvM} {q w : Nat} {n : Int32} {S : List (Nat × Int32 × List Int32)} (h : zHC M q S) (hw : w = 2 ∨ w = 3) (e : X = pvu M q (w - 2) n) : zHC X q (S ++ [(w, n, [])]) := by
  have h9 : ∀ b, X.1 (q + 9) b = M.1 (q + 9) b := fun b => pvu_n e _ b (Or.inl (by omega))
  have h18 : ∀ b, X.1 (q + 18) b = M.1 (q + 18) b := fun b => pvu_n e _ b (Or.inl (by omega))
  have h27 : ∀ b, X.1 (q + 27) b = M.1 (q + 27) b := fun b => pvu_n e _ b (Or.inl (by omega))
  have lo : ∀ i, zlo9 X q i = zlo9 M q i := fun i => zlo9_c (fun j _ => h18 j)
  obtain ⟨a1, a2, a3, a4, a5⟩ := h
  have z : zcs (S ++ [(w, n, [])]) = zcs S := zcs_2 S n [] (by omega)
  unfold zHC
  rw [z, zlst_a, zlst_a]
  refine ⟨?_, ?_, by rw [pvu_n e q 2 (Or.inr (by omega))]; exact a3, by rw [pvu_n e q 5 (Or.inr (by omega)), lo]; exact a4, fun i x k => ?_⟩
  · rcases hw with rfl | rfl
    · rw [if_pos rfl]; exact pvu_s e
    · rw [if_neg (show ¬ (3, n, ([] : List Int32)).1 = 2 from fun z : (3 : Nat) = 2 => absurd z (by decide))]; exact (pvu_n e q 0 (Or.inr (by decide))).trans a1
  · rcases hw with rfl | rfl
    · rw [if_neg (show ¬ (2, n, ([] : List Int32)).1 = 3 from fun z : (2 : Nat) = 3 => absurd z (by decide))]; exact (pvu_n e q 1 (Or.inr (by decide))).trans a2
    · rw [if_pos rfl]; exact pvu_s e
  · rw [lo, lo, h9, pvu_n e q 5 (Or.inr (by omega)), zsl9_c (fun j _ => h27 j)]
    exact a5 i x k
/-- a wet, a dry -/
def zpE (M : pvM) (q : Nat) (m : Int32) : pvM := pvu (pvu (pvu M (q + 9) (Int32.toNatClampNeg (M.1 q 2)) m) (q + 18) (Int32.toNatClampNeg (M.1 q 2)) (M.1 q 5)) q 2 (M.1 q 2 + 1)
def zEs (q : Nat) (m : Int32) (M X : pvM) : Prop := ((M.1 q 2).toInt < 10 ∧ X = zpE M q m) ∨ (10 ≤ (M.1 q 2).toInt ∧ X = M)
theorem zEs_o {q : Nat} {m : Int32} {M X : pvM} (h : zEs q m M X) (a b : Nat) (h1 : a ≠ q ∨ b ≠ 2) (h2 : a ≠ q + 9) (h3 : a ≠ q + 18) : X.1 a b = M.1 a b := by
  rcases h with ⟨_, e⟩ | ⟨_, e⟩
  · have e1 : pvu M (q + 9) (Int32.toNatClampNeg (M.1 q 2)) m = pvu M (q + 9) (Int32.toNatClampNeg (M.1 q 2)) m := rfl
    have e2 : pvu (pvu M (q + 9) (Int32.toNatClampNeg (M.1 q 2)) m) (q + 18) (Int32.toNatClampNeg (M.1 q 2)) (M.1 q 5) = _ := rfl
    exact (pvu_n (show X = pvu (pvu (pvu M (q + 9) (Int32.toNatClampNeg (M.1 q 2)) m) (q + 18) (Int32.toNatClampNeg (M.1 q 2)) (M.1 q 5)) q 2 (M.1 q 2 + 1) from e) a b h1).trans ((pvu_n e2 a b (Or.inl h3)).trans (pvu_n e1 a b (Or.inl h2)))
  · rw [e]
theorem zEs_x {q : Nat} {m : Int32} {M X : pvM} (hs : 15 ≤ zq9 M ∧ zq9 M ≤ 23) (e : q = zq9 M) (h : zEs q m M X) : zHx M X ∧ X.1 6 2 = M.1 6 2 ∧ X.1 6 3 = M.1 6 3 ∧ X.1 q 5 = M.1 q 5 := by
  subst e
  exact ⟨⟨zEs_o h 6 1 (Or.inr (by decide)) (by omega) (by omega), zEs_o h 6 4 (Or.inr (by decide)) (by omega) (by omega), fun i => zEs_o h 7 i (Or.inl (by omega)) (by omega) (by omega), fun a b h1 h2 h3 => zEs_o h a b (Or.inl (fun z => h3 (Or.inl z))) (fun z => h3 (Or.inr (Or.inl z))) (fun z => h3 (Or.inr (Or.inr (Or.inl z))))⟩, zEs_o h 6 2 (Or.inl (by omega)) (by omega) (by omega), zEs_o h 6 3 (Or.inr (by decide)) (by omega) (by omega), zEs_o h _ 5 (Or.inr (by decide)) (by omega) (by omega)⟩
theorem zsl9_L {X : pvM} {q a : Nat} {L : List Int32} (h : ∀ j : Nat, j < L.length → X.1 (q + 27) (a + j) = L.getD j 0) : zsl9 X q a (a + L.length) = L := by
  unfold zsl9
  rw [Nat.add_sub_cancel_left]
  refine List.ext_getElem (by rw [List.length_map, List.length_range]) (fun j h1 h2 => ?_)
  rw [List.getElem_map, List.getElem_range, h j h2, List.getD_eq_getElem?_getD, List.getElem?_eq_getElem h2]
  rfl
theorem zHC_e {M Y X : pvM} {q w : Nat} {n m : Int32} {L L' : List Int32} {S : List (Nat × Int32 × List Int32)} (hs : zRs M) (e : q = zq9 M) (a : zAq M Y L) (d : zEs q m Y X) (hw : w < 2) (hm : m = if w = 0 then n else -n) (hL : zSem 11 L L') (h10 : S.length < 10) (h : zHC M q S) : zHC X q (S ++ [(w, n, L')]) := by
  obtain ⟨k1, k2, k3, k4, k5, k6⟩ := a
  rw [← e] at k1 k2 k3 k4 k5 k6
  obtain ⟨a1, a2, a3, a4, a5⟩ := h
  have l := zcs_l S
  have y2 : Y.1 q 2 = M.1 q 2 := k1 2 (by decide)
  have s0 := hs.2.2.1
  rw [← e] at s0
  have e0 := ztn _ s0
  have e5 := ztn (Y.1 q 5) (by omega)
  have c : Int32.toNatClampNeg (M.1 q 2) = (zcs S).length := znat a3
  rcases d with ⟨_, d⟩ | ⟨z, _⟩
  case inr => rw [y2, a3] at z; omega
  have e1 : pvu Y (q + 9) (Int32.toNatClampNeg (Y.1 q 2)) m = pvu Y (q + 9) (Int32.toNatClampNeg (Y.1 q 2)) m := rfl
  have e2 : pvu (pvu Y (q + 9) (Int32.toNatClampNeg (Y.1 q 2)) m) (q + 18) (Int32.toNatClampNeg (Y.1 q 2)) (Y.1 q 5) = pvu (pvu Y (q + 9) (Int32.toNatClampNeg (Y.1 q 2)) m) (q + 18) (Int32.toNatClampNeg (Y.1 q 2)) (Y.1 q 5) := rfl
  have e3 : X = pvu (pvu (pvu Y (q + 9) (Int32.toNatClampNeg (Y.1 q 2)) m) (q + 18) (Int32.toNatClampNeg (Y.1 q 2)) (Y.1 q 5)) q 2 (Y.1 q 2 + 1) := d
  have x0 : ∀ b, b ≠ 2 → X.1 q b = Y.1 q b := fun b hb => (pvu_n e3 q b (Or.inr hb)).trans ((pvu_n e2 q b (Or.inl (by omega))).trans (pvu_n e1 q b (Or.inl (by omega))))
  have x2 : X.1 q 2 = M.1 q 2 + 1 := by rw [pvu_s e3, y2]
  have x9 : ∀ b, b ≠ (zcs S).length → X.1 (q + 9) b = M.1 (q + 9) b := fun b hb => (pvu_n e3 _ b (Or.inl (by omega))).trans ((pvu_n e2 _ b (Or.inl (by omega))).trans ((pvu_n e1 _ b (Or.inr (by rw [y2, c]; exact hb))).trans (k2 b)))
  have x9c : X.1 (q + 9) (zcs S).length = m := by
    rw [← c, ← y2]
    exact (pvu_n e3 _ _ (Or.inl (by omega))).trans ((pvu_n e2 _ _ (Or.inl (by omega))).trans (pvu_s e1))
  have x18 : ∀ b, b ≠ (zcs S).length → X.1 (q + 18) b = M.1 (q + 18) b := fun b hb => (pvu_n e3 _ b (Or.inl (by omega))).trans ((pvu_n e2 _ b (Or.inr (by rw [y2, c]; exact hb))).trans ((pvu_n e1 _ b (Or.inl (by omega))).trans (k3 b)))
  have x18c : X.1 (q + 18) (zcs S).length = Y.1 q 5 := by
    rw [← c, ← y2]
    exact (pvu_n e3 _ _ (Or.inl (by omega))).trans (pvu_s e2)
  have x27 : ∀ b, X.1 (q + 27) b = Y.1 (q + 27) b := fun b => (pvu_n e3 _ b (Or.inl (by omega))).trans ((pvu_n e2 _ b (Or.inl (by omega))).trans (pvu_n e1 _ b (Or.inl (by omega))))
  have lo : ∀ i, i ≤ (zcs S).length → zlo9 X q i = zlo9 M q i := fun i hi => zlo9_c (fun j hj => x18 j (by omega))
  have loc : zlo9 X q ((zcs S).length + 1) = Int32.toNatClampNeg (Y.1 q 5) := by
    unfold zlo9
    rw [if_neg (by omega), Nat.add_sub_cancel, x18c]
  unfold zHC
  rw [zcs_1 S n L' hw, zlst_a, zlst_a, List.length_append, List.length_singleton]
  refine ⟨?_, ?_, ?_, ?_, fun i x k => ?_⟩
  · rw [if_neg (show ¬ w = 2 by omega), x0 0 (by decide), k1 0 (by decide)]; exact a1
  · rw [if_neg (show ¬ w = 3 by omega), x0 1 (by decide), k1 1 (by decide)]; exact a2
  · rw [x2, zadd_1 _ (by omega), a3]; omega
  · rw [loc, x0 5 (by decide)]
  · by_cases hi : i < (zcs S).length
    · rw [List.getElem?_append_left hi] at k
      obtain ⟨b1, b2, b3, b4⟩ := a5 i x k
      rw [lo i (by omega), lo (i + 1) (by omega), x9 i (by omega), x0 5 (by decide)]
      refine ⟨b1, b2, by omega, ?_⟩
      rw [zsl9_c (M := M) (fun j hj => (x27 j).trans (k5 j (by omega)))]
      exact b4
    · rw [List.getElem?_append_right (by omega)] at k
      have hi2 : i = (zcs S).length := by
        have : i - (zcs S).length < 1 := by
          rw [← List.length_singleton (a := ((w, n, L') : Nat × Int32 × List Int32))]
          exact (List.getElem?_eq_some_iff.mp k).1
        omega
      subst hi2
      rw [Nat.sub_self] at k
      have hx : (w, n, L') = x := Option.some.inj k
      subst hx
      rw [lo _ (Nat.le_refl _), loc, x9c, x0 5 (by decide), a4]
      refine ⟨hm, by omega, Nat.le_refl _, ?_⟩
      have e6 : Int32.toNatClampNeg (Y.1 q 5) = Int32.toNatClampNeg (M.1 q 5) + L.length := by omega
      rw [e6, zsl9_L (fun j hj => (x27 _).trans (k6 j hj))]
      exact hL
/-- what a clause does -/
def zCd (r : Option pvV) (M X : pvM) : Prop := zRq X ∧ zHx M X ∧ ∃ (b : Bool) (w : Nat) (n : Int32) (L : List Int32), r = some (pvI (bif b then 1 else 0)) ∧ zCl (zs9 M) (zP9 M) b (zP9 X) w n L ∧ (b = true → (0 ≤ (X.1 (zq9 M) 5).toInt ∧ (X.1 (zq9 M) 5).toInt ≤ (X.1 6 2).toInt) ∧ ∀ S : List (Nat × Int32 × List Int32), S.length < 10 → zHC M (zq9 M) S → zHC X (zq9 M) (S ++ [(w, n, L)]))
theorem zTC_1 {M : pvM} (hz : zRq M) (c : ¬ (if zsl.getD (zwf (M.1 6 3) - 1010) 0 = 0 then (1 : Int32) else 0) = 0) : zCd (some (pvI 0)) M M := by
  refine ⟨hz, zHx_r M, false, 0, 0, [], rfl, ?_, fun z => absurd z (by decide)⟩
  unfold zCl
  rw [← hz.2, zwf_e c]
  exact ⟨rfl, rfl⟩
theorem zTC_2 {x : Int32} {M X : pvM} (hz : zRq M) (c : (if zsl.getD (zwf (M.1 6 3) - 1010) 0 = 0 then (1 : Int32) else 0) = 0) (d : zRb (zTw (zsb.getD (zwf (M.1 6 3) - 1010) [])) (some (pvI x)) M X) (n : x = 0) : zCd (some (pvI 0)) M X := by
  obtain ⟨a1, a2, a3⟩ := zRb_n d n
  obtain ⟨w, hw, -⟩ := zwf_w c
  refine ⟨a1, zHx_k a2, false, w, 0, [], rfl, ?_, fun z => absurd z (by decide)⟩
  unfold zTw at a3
  unfold zCl
  rw [← hz.2, hw]
  dsimp only
  rw [a3, if_pos rfl]
  exact ⟨rfl, rfl⟩
theorem zTC_3 {x y : Int32} {M A X : pvM} (hz : zRq M) (c : (if zsl.getD (zwf (M.1 6 3) - 1010) 0 = 0 then (1 : Int32) else 0) = 0) (d : zRb (zTw (zsb.getD (zwf (M.1 6 3) - 1010) [])) (some (pvI x)) M A) (n : ¬ x = 0) (d2 : zRn (some (pvI y)) A X) (n2 : y.toInt < 0) : zCd (some (pvI 0)) M X := by
  obtain ⟨a1, a2, a3⟩ := zRb_y d n
  obtain ⟨b1, b2, b3, b4⟩ := zRn_no d2 n2
  obtain ⟨w, hw, -⟩ := zwf_w c
  refine ⟨b1, zHx_k (zKh_t a2 b2), false, w, 0, [], rfl, ?_, fun z => absurd z (by decide)⟩
  unfold zTw at a3
  rw [zKh_s a2] at b3 b4
  unfold zCl
  rw [← hz.2, hw]
  dsimp only
  rw [a3, if_neg (by simp)]
  dsimp only
  rw [if_pos b3]
  exact ⟨rfl, b4⟩
/-- the word and the number are read -/
def zCn (M B : pvM) (y : Int32) : Prop := zRs M ∧ zRs B ∧ zKh M B ∧ zP9 M ≤ zP9 B ∧ ∃ (w q : Nat), zhw (zs9 M (zP9 M)) = some (w, zsb.getD (zwf (M.1 6 3) - 1010) []) ∧ zwd (zs9 M) (zsb.getD (zwf (M.1 6 3) - 1010) []) (zP9 M) = (true, q) ∧ (znu (zs9 M) q).1 = true ∧ zP9 B = (znu (zs9 M) q).2.1 ∧ y = (znu (zs9 M) q).2.2 ∧ (w = 2 ↔ M.1 6 3 = 115) ∧ (w = 3 ↔ M.1 6 3 = 108) ∧ (w = 0 ↔ M.1 6 3 = 119) ∧ w < 4
theorem zCn_i {x y : Int32} {M A B : pvM} (hs : zRs M) (c : (if zsl.getD (zwf (M.1 6 3) - 1010) 0 = 0 then (1 : Int32) else 0) = 0) (d : zRb (zTw (zsb.getD (zwf (M.1 6 3) - 1010) [])) (some (pvI x)) M A) (n : ¬ x = 0) (d2 : zRn (some (pvI y)) A B) (n2 : ¬ y.toInt < 0) : zCn M B y := by
  obtain ⟨a1, a2, a3⟩ := zRb_y d n
  obtain ⟨b1, b2, b3, b4, b5⟩ := zRn_y d2 n2
  obtain ⟨w, hw, k1, k2, k0, k3⟩ := zwf_w c
  have l1 := zwd_le a3
  have l2 := (znu_r b3).2
  rw [zKh_s a2] at b3 b4 b5 l2
  have le : zP9 M ≤ zP9 B := by omega
  exact ⟨hs, zKh_p hs b1 (zKh_t a2 b2) le, zKh_t a2 b2, le, w, zP9 A, by rw [← hs.1.2]; exact hw, a3, b3, b4, b5, k1, k2, k0, k3⟩
theorem zCl_n {M : pvM} {B : pvM} {y : Int32} (h : zCn M B y) {b : Bool} {r w : Nat} {L : List Int32} (k : ∀ w0 : Nat, zhw (zs9 M (zP9 M)) = some (w0, zsb.getD (zwf (M.1 6 3) - 1010) []) → (w0 = 2 ↔ M.1 6 3 = 115) → (w0 = 3 ↔ M.1 6 3 = 108) → (w0 = 0 ↔ M.1 6 3 = 119) → w0 < 4 → w0 = w ∧ (if 2 ≤ w then b = true ∧ r = zP9 B ∧ L = [] else if zs9 M (zP9 B) = 32 then zyE (zs9 M) (zP9 B + 1) b r L else b = false ∧ r = zP9 B)) : zCl (zs9 M) (zP9 M) b r w y L := by
  obtain ⟨a, b1, kh, le, w0, q, e1, e2, e3, e4, e5, k1, k2, k0, k3⟩ := h
  obtain ⟨rfl, k⟩ := k w0 e1 k1 k2 k0 k3
  unfold zCl
  rw [e1]
  dsimp only
  rw [e2, if_neg (by simp)]
  dsimp only
  rw [if_neg (by rw [e3]; decide), ← e4, ← e5]
  by_cases c : 2 ≤ w0
  · rw [if_pos c] at k ⊢
    exact ⟨k.1, k.2.1, rfl, rfl, k.2.2⟩
  · rw [if_neg c] at k ⊢
    by_cases c2 : zs9 M (zP9 B) = 32
    · rw [if_pos c2] at k ⊢
      exact ⟨k, rfl, rfl⟩
    · rw [if_neg c2] at k ⊢
      exact k
theorem zTC_4 {y : Int32} {q w : Nat} {M B X : pvM} (h : zCn M B y) (hw : (w = 2 ∧ M.1 6 3 = 115) ∨ (w = 3 ∧ M.1 6 3 = 108)) (eq : q = zq9 B) (e : X = pvu B q (w - 2) y) : zCd (some (pvI 1)) M X := by
  have hq : q = zq9 M := eq.trans (zKh_q h.2.2.1)
  have hr := h.1.2.1
  have x1 : zHx B X := ⟨pvu_n e 6 1 (Or.inl (by omega)), pvu_n e 6 4 (Or.inl (by omega)), fun i => pvu_n e 7 i (Or.inl (by omega)), fun a b h1 h2 h3 => pvu_n e a b (Or.inl (fun z => h3 (Or.inl (z.trans eq))))⟩
  obtain ⟨r1, r2⟩ := zRq_s h.2.1.1 x1 (pvu_n e 6 2 (Or.inl (by omega))) (pvu_n e 6 3 (Or.inl (by omega)))
  have z5 : X.1 (zq9 M) 5 = M.1 (zq9 M) 5 := by
    rw [← hq, pvu_n e q 5 (Or.inr (by omega)), h.2.2.1.2.2 q 5 (by omega)]
  have e2 : X.1 6 2 = B.1 6 2 := pvu_n e 6 2 (Or.inl (by omega))
  refine ⟨r1, zHx_t (zHx_k h.2.2.1) x1, true, w, y, [], rfl, ?_, fun _ => ⟨?_, fun S h10 hS => ?_⟩⟩
  · refine zCl_n h (fun w0 _ k1 k2 k0 k3 => ?_)
    have : w0 = w := by
      rcases hw with ⟨rfl, z⟩ | ⟨rfl, z⟩
      · exact k1.mpr z
      · exact k2.mpr z
    refine ⟨this, ?_⟩
    rw [if_pos (by omega)]
    exact ⟨rfl, r2, rfl⟩
  · have z1 := h.1.2.2
    have z2 := zP9_i h.1.1
    have z3 := zP9_i h.2.1.1
    have z4 := h.2.2.2.1
    rw [z5, e2]
    omega
  · rw [← hq] at hS ⊢
    refine zHC_s (M := B) (zHC_k hS (fun a b z => h.2.2.1.2.2 a b ?_)) (by omega) e
    rcases z with z | z | z | z <;> omega
theorem zTC_w {M B : pvM} {y : Int32} (h : zCn M B y) (c1 : ¬ M.1 6 3 = 115) (c2 : ¬ M.1 6 3 = 108) : ∃ w : Nat, w < 2 ∧ (w = 0 ↔ M.1 6 3 = 119) ∧ ∀ {b : Bool} {r : Nat} {L : List Int32}, (if zs9 M (zP9 B) = 32 then zyE (zs9 M) (zP9 B + 1) b r L else b = false ∧ r = zP9 B) → zCl (zs9 M) (zP9 M) b r w y L := by
  obtain ⟨a, b1, kh, le, w0, q, e1, e2, e3, e4, e5, k1, k2, k0, k3⟩ := id h
  have hw : w0 < 2 := by
    have n1 : ¬ w0 = 2 := fun z => c1 (k1.mp z)
    have n2 : ¬ w0 = 3 := fun z => c2 (k2.mp z)
    omega
  refine ⟨w0, hw, k0, fun {b r L} k => zCl_n h (fun w1 f1 _ _ _ _ => ⟨?_, ?_⟩)⟩
  · rw [e1] at f1
    exact (Prod.mk.inj (Option.some.inj f1)).1.symm
  · rw [if_neg (by omega)]
    exact k
theorem zTC_5 {x y : Int32} {M B X : pvM} (h : zCn M B y) (c1 : ¬ M.1 6 3 = 115) (c2 : ¬ M.1 6 3 = 108) (d : zRb (zTsg 32) (some (pvI x)) B X) (n : x = 0) : zCd (some (pvI 0)) M X := by
  obtain ⟨a1, a2, a3⟩ := zRb_n d n
  obtain ⟨f1, f2⟩ := zTsg_n a3
  obtain ⟨w, -, -, k⟩ := zTC_w h c1 c2
  rw [zKh_s h.2.2.1] at f1
  exact ⟨a1, zHx_k (zKh_t h.2.2.1 a2), false, w, y, [], rfl, k (by rw [if_neg f1]; exact ⟨rfl, f2⟩), fun z => absurd z (by decide)⟩
theorem zTC_6 {x y z : Int32} {M B C X : pvM} (h : zCn M B y) (c1 : ¬ M.1 6 3 = 115) (c2 : ¬ M.1 6 3 = 108) (d : zRb (zTsg 32) (some (pvI x)) B C) (n : ¬ x = 0) (d2 : zRc (zTA 0) (some (pvI z)) C X) (n2 : z = 0) : zCd (some (pvI 0)) M X := by
  obtain ⟨a1, a2, a3⟩ := zRb_y d n
  obtain ⟨f1, f2⟩ := zTsg_y a3
  obtain ⟨w, -, -, k⟩ := zTC_w h c1 c2
  obtain ⟨b1, b2, L, b3⟩ := zRc_n d2 n2
  have kk := zKh_t h.2.2.1 a2
  rw [zKh_s h.2.2.1] at f1
  rw [zKh_s kk, f2] at b3
  obtain ⟨L', b4, -⟩ := zTA_E b3
  exact ⟨b1, zHx_t (zHx_k kk) b2, false, w, y, L', rfl, k (by rw [if_pos f1]; exact b4), fun z => absurd z (by decide)⟩
theorem zCn_c {x y : Int32} {M B C : pvM} (h : zCn M B y) (d : zRb (zTsg 32) (some (pvI x)) B C) (n : ¬ x = 0) : zRs C := by
  obtain ⟨a1, a2, a3⟩ := zRb_y d n
  obtain ⟨f1, f2⟩ := zTsg_y a3
  exact zKh_p h.2.1 a1 a2 (by omega)
theorem zTC_7 {x y z m : Int32} {q : Nat} {M B C Y X : pvM} (h : zCn M B y) (c1 : ¬ M.1 6 3 = 115) (c2 : ¬ M.1 6 3 = 108) (d : zRb (zTsg 32) (some (pvI x)) B C) (n : ¬ x = 0) (d2 : zRc (zTA 0) (some (pvI z)) C Y) (n2 : ¬ z = 0) (e : q = zq9 Y) (d3 : zEs q m Y X) (hm : (M.1 6 3 = 119 ∧ m = y) ∨ (¬ M.1 6 3 = 119 ∧ m = -y)) : zCd (some (pvI 1)) M X := by
  have sc := zCn_c h d n
  obtain ⟨a1, a2, a3⟩ := zRb_y d n
  obtain ⟨f1, f2⟩ := zTsg_y a3
  obtain ⟨w, hw, hw0, k⟩ := zTC_w h c1 c2
  obtain ⟨b1, b2, L, b4, b3⟩ := zRc_y d2 n2
  have kk := zKh_t h.2.2.1 a2
  rw [zKh_s h.2.2.1] at f1
  have g := zAc_c sc (zAc_0 sc) b1 b2 b4 (zTA_l b3)
  rw [List.nil_append] at g
  rw [zKh_s kk, f2] at b3
  obtain ⟨L', b5, b6⟩ := zTA_E b3
  have rs := zAc_rs sc g
  obtain ⟨x1, x2, x3, x4⟩ := zEs_x rs.2.1 e d3
  obtain ⟨r1, r2⟩ := zRq_s b1 x1 x2 x3
  have q1 : zq9 C = zq9 M := zKh_q kk
  have q2 : zq9 Y = zq9 M := (zHx_q b2).trans q1
  have eq : q = zq9 M := e.trans q2
  have hm2 : m = if w = 0 then y else -y := by
    rcases hm with ⟨u, v⟩ | ⟨u, v⟩
    · rw [if_pos (hw0.mpr u), v]
    · rw [if_neg (fun z => u (hw0.mp z)), v]
  refine ⟨r1, zHx_t (zHx_t (zHx_k kk) b2) x1, true, w, y, L', rfl, k (by rw [if_pos f1, r2]; exact b5), fun _ => ⟨?_, fun S h10 hS => ?_⟩⟩
  · rw [← eq, x4, x2, e]
    exact rs.2.2
  · rw [← eq] at hS ⊢
    have hr := h.1.2.1
    refine zHC_e (M := C) (Y := Y) sc (eq.trans q1.symm) b4 d3 hw hm2 (b6 rfl).1 h10 (zHC_k hS (fun a b z => kk.2.2 a b ?_))
    rcases z with z | z | z | z <;> omega
/-! a text of the class's reader -/
theorem zq_r {q : Nat} (h : pvkl q = 2) : 15 ≤ q ∧ q ≤ 23 := pvhp_r0 q (pvkl_lt h (by decide)) h
theorem zq_n {q : Nat} (h : pvkl q = 2) : pvhp (nI q) = q := by
  have r := zq_r h
  exact znat (nI_toInt (by omega))
def zpB (M : pvM) (q : Nat) : pvM := pvu (pvu (pvu (pvu M q 0 2) q 1 15) q 2 0) q 5 0
theorem zpB_o {M : pvM} {q a b : Nat} (h : a ≠ q) : (zpB M q).1 a b = M.1 a b := by
  unfold zpB
  rw [pvu_n rfl a b (Or.inl h), pvu_n rfl a b (Or.inl h), pvu_n rfl a b (Or.inl h), pvu_n rfl a b (Or.inl h)]
theorem zpB_c {M : pvM} {q : Nat} : (zpB M q).1 q 0 = 2 ∧ (zpB M q).1 q 1 = 15 ∧ (zpB M q).1 q 2 = 0 ∧ (zpB M q).1 q 5 = 0 := by
  unfold zpB
  refine ⟨?_, ?_, ?_, pvu_s rfl⟩
  · rw [pvu_n rfl q 0 (Or.inr (by decide)), pvu_n rfl q 0 (Or.inr (by decide)), pvu_n rfl q 0 (Or.inr (by decide))]
    exact pvu_s rfl
  · rw [pvu_n rfl q 1 (Or.inr (by decide)), pvu_n rfl q 1 (Or.inr (by decide))]
    exact pvu_s rfl
  · rw [pvu_n rfl q 2 (Or.inr (by decide))]
    exact pvu_s rfl
/-- what stays as a text is read into a HOUSE -/
def zHy (q : Nat) (M X : pvM) : Prop := X.1 6 1 = M.1 6 1 ∧ (∀ i : Nat, X.1 7 i = M.1 7 i) ∧ ∀ a b : Nat, 15 ≤ a → a < 51 → ¬ zin q a → X.1 a b = M.1 a b
theorem zHy_s {q : Nat} {M X : pvM} (h : zHy q M X) : zs9 X = zs9 M := zs9_k h.1 h.2.1
theorem zHy_t {q : Nat} {M Y X : pvM} (h : zHy q M Y) (e : zq9 Y = q) (k : zHx Y X) : zHy q M X := ⟨k.1.trans h.1, fun i => (k.2.2.1 i).trans (h.2.1 i), fun a b h1 h2 h3 => (k.2.2.2 a b h1 h2 (by rw [e]; exact h3)).trans (h.2.2 a b h1 h2 h3)⟩
def zTI (q : Nat) (r : Option pvV) (M X : pvM) : Prop := zRq X ∧ zHy q M X ∧ ∃ (b : Bool) (S : List (Nat × Int32 × List Int32)), r = some (pvI (bif b then 1 else 0)) ∧ zTX (zs9 M) 9 0 b (zP9 X) S ∧ (b = true → zHC X q S)
def zLI (q k : Nat) (M Y : pvM) : Prop := zRs Y ∧ zq9 Y = q ∧ zHy q M Y ∧ ∃ S : List (Nat × Int32 × List Int32), S.length = k ∧ zHC Y q S ∧ ∀ (b : Bool) (q' : Nat) (S' : List (Nat × Int32 × List Int32)), zTX (zs9 M) (9 - k) (zP9 Y) b q' S' → zTX (zs9 M) 9 0 b q' (S ++ S')
theorem zLI_0 {q : Nat} {M M1 M2 M3 Y : pvM} (hq : pvkl q = 2) (e1 : M1 = pvu M 6 4 (nI q)) (e2 : M2 = zpB M1 q) (e3 : M3 = pvu M2 6 2 (-1)) (g : zGo M3 Y) : zLI q (Int32.toNatClampNeg 1 - 1) M Y := by
  have r := zq_r hq
  obtain ⟨g1, g2, g3⟩ := g
  subst e2
  have a2 : Y.1 6 2 = 0 := by rw [g2, pvu_s e3]; decide
  have a4 : Y.1 6 4 = nI q := by rw [g3.2.1, pvu_n e3 6 4 (Or.inr (by decide)), zpB_o (by omega)]; exact pvu_s e1
  have qe : zq9 Y = q := by unfold zq9; rw [a4]; exact zq_n hq
  have c0 : ∀ b, Y.1 q b = (zpB M1 q).1 q b := fun b => (g3.2.2 q b (by omega)).trans (pvu_n e3 q b (Or.inl (by omega)))
  have z := zpB_c (M := M1) (q := q)
  have p : zP9 Y = 0 := by unfold zP9; rw [a2]; decide
  have o : zHy q M Y := ⟨by rw [g3.1, pvu_n e3 6 1 (Or.inr (by decide)), zpB_o (by omega)]; exact pvu_n e1 6 1 (Or.inr (by decide)), fun i => by rw [g3.2.2 7 i (by decide), pvu_n e3 7 i (Or.inl (by decide)), zpB_o (by omega)]; exact pvu_n e1 7 i (Or.inl (by decide)), fun a b h1 h2 h3 => by rw [g3.2.2 a b (by omega), pvu_n e3 a b (Or.inl (by omega)), zpB_o (fun y => h3 (Or.inl y))]; exact pvu_n e1 a b (Or.inl (by omega))⟩
  have y5 : Y.1 q 5 = 0 := (c0 5).trans z.2.2.2
  refine ⟨⟨g1, by rw [qe]; exact r, ?_⟩, qe, o, [], rfl, ?_, fun b q' S' h => ?_⟩
  · rw [qe, y5, a2]
    decide
  · refine ⟨(c0 0).trans z.1, (c0 1).trans z.2.1, by rw [c0 2, z.2.2.1]; rfl, by rw [y5]; rfl, fun i x k => ?_⟩
    exact absurd k (by simp [zcs])
  · rw [p] at h
    exact h
theorem zLI_n {q k k' : Nat} {M X : pvM} (e : k' = k) (h : zLI q k M X) : zLI q k' M X := e ▸ h
theorem zTX_s {σ : Nat → Int32} {f p q : Nat} {b : Bool} {S : List (Nat × Int32 × List Int32)} (h : zTXs σ (match f with | 0 => fun _ _ _ _ => False | f + 1 => zTX σ f) (decide (0 < f)) p b q S) : zTX σ f p b q S := by
  cases f with
  | zero => exact h
  | succ f => exact h
theorem zTI_1 {q k : Nat} {x : Int32} {M Y X : pvM} (h : zLI q k M Y) (d : zCd (some (pvI x)) Y X) (c : x = 0) : zTI q (some (pvI 0)) M X := by
  obtain ⟨h1, h2, h3, S, h4, h5, h6⟩ := h
  obtain ⟨a1, a2, b, w, n, L, e, a3, a4⟩ := d
  have e : x = bif b then 1 else 0 := Sum.inl.inj (Option.some.inj e)
  have hb : b = false := by
    cases b
    · rfl
    · rw [c] at e; exact absurd e (by decide)
  subst hb
  rw [zHy_s h3] at a3
  exact ⟨a1, zHy_t h3 h2 a2, false, S ++ [], rfl, h6 false (zP9 X) [] (zTX_s ⟨false, zP9 X, w, n, L, a3, by rw [if_pos rfl]; exact ⟨rfl, rfl⟩⟩), fun z => absurd z (by decide)⟩
/-- a clause is read -/
theorem zLI_c {q k : Nat} {x : Int32} {M Y X : pvM} (h : zLI q k M Y) (d : zCd (some (pvI x)) Y X) (c : ¬ x = 0) (hk : k ≤ 9) : zRs X ∧ zq9 X = q ∧ zHy q M X ∧ ∃ (S : List (Nat × Int32 × List Int32)) (w : Nat) (n : Int32) (L : List Int32), S.length = k ∧ zHC X q (S ++ [(w, n, L)]) ∧ zCl (zs9 M) (zP9 Y) true (zP9 X) w n L ∧ ∀ (b : Bool) (q' : Nat) (S' : List (Nat × Int32 × List Int32)), zTX (zs9 M) (9 - k) (zP9 Y) b q' S' → zTX (zs9 M) 9 0 b q' (S ++ S') := by
  obtain ⟨h1, h2, h3, S, h4, h5, h6⟩ := h
  obtain ⟨a1, a2, b, w, n, L, e, a3, a4⟩ := d
  have e : x = bif b then 1 else 0 := Sum.inl.inj (Option.some.inj e)
  have hb : b = true := by
    cases b
    · exact absurd e c
    · rfl
  subst hb
  obtain ⟨a4, a5⟩ := a4 rfl
  rw [zHy_s h3] at a3
  rw [h2] at a4 a5
  have q2 : zq9 X = q := (zHx_q a2).trans h2
  exact ⟨⟨a1, by rw [zHx_q a2]; exact h1.2.1, by rw [q2]; exact a4⟩, q2, zHy_t h3 h2 a2, S, w, n, L, h4, a5 S (by omega) h5, a3, h6⟩
theorem zTI_2 {q k : Nat} {x : Int32} {M Y X : pvM} (h : zLI q k M Y) (d : zCd (some (pvI x)) Y X) (c : ¬ x = 0) (hk : k ≤ 9) (e : X.1 6 3 = -1) : zTI q (some (pvI 1)) M X := by
  obtain ⟨h1, h2, h3, S, w, n, L, h4, h5, h6, h7⟩ := zLI_c h d c hk
  have s := h1.1.2.symm.trans e
  rw [zHy_s h3] at s
  exact ⟨h1.1, h3, true, _, rfl, h7 true (zP9 X) [(w, n, L)] (zTX_s ⟨true, zP9 X, w, n, L, h6, by rw [if_neg (by decide), if_pos s]; exact ⟨rfl, rfl, rfl⟩⟩), fun _ => h5⟩
theorem zTI_3 {q k : Nat} {x : Int32} {M Y X : pvM} (h : zLI q k M Y) (d : zCd (some (pvI x)) Y X) (c : ¬ x = 0) (hk : k = 9) (e : ¬ X.1 6 3 = -1) : zTI q (some (pvI 0)) M X := by
  obtain ⟨h1, h2, h3, S, w, n, L, h4, h5, h6, h7⟩ := zLI_c h d c (by omega)
  rw [h1.1.2, zHy_s h3] at e
  subst hk
  exact ⟨h1.1, h3, false, _, rfl, h7 false (zP9 X) [] (zTX_s ⟨true, zP9 X, w, n, L, h6, by rw [if_neg (by decide), if_neg e, if_neg (fun z => absurd z.1 (by decide))]; exact ⟨rfl, rfl⟩⟩), fun z => absurd z (by decide)⟩
theorem zTI_4 {q k : Nat} {x y : Int32} {M Y A X : pvM} (h : zLI q k M Y) (d : zCd (some (pvI x)) Y A) (c : ¬ x = 0) (hk : k < 9) (e : ¬ A.1 6 3 = -1) (d2 : zRb (zTsg 59) (some (pvI y)) A X) : (y = 0 → zTI q (some (pvI 0)) M X) ∧ (¬ y = 0 → zLI q (k + 1) M X) := by
  obtain ⟨h1, h2, h3, S, w, n, L, h4, h5, h6, h7⟩ := zLI_c h d c (by omega)
  rw [h1.1.2, zHy_s h3] at e
  obtain ⟨f, hf⟩ : ∃ f, 9 - k = f + 1 := ⟨8 - k, by omega⟩
  refine ⟨fun u => ?_, fun u => ?_⟩
  · obtain ⟨b1, b2, b3⟩ := zRb_n d2 u
    obtain ⟨f1, f2⟩ := zTsg_n b3
    rw [zHy_s h3] at f1
    refine ⟨b1, zHy_t h3 h2 (zHx_k b2), false, _, rfl, h7 false (zP9 X) [] (zTX_s ⟨true, zP9 A, w, n, L, h6, ?_⟩), fun z => absurd z (by decide)⟩
    rw [if_neg (by decide), if_neg e, if_neg (fun z => f1 z.2)]
    exact ⟨rfl, f2⟩
  · obtain ⟨b1, b2, b3⟩ := zRb_y d2 u
    obtain ⟨f1, f2⟩ := zTsg_y b3
    rw [zHy_s h3] at f1
    refine ⟨zKh_p h1 b1 b2 (by omega), (zKh_q b2).trans h2, zHy_t h3 h2 (zHx_k b2), S ++ [(w, n, L)], by rw [List.length_append, h4]; rfl, zHC_k h5 (fun a b z => b2.2.2 a b ?_), fun b q' S' t => ?_⟩
    · have := h1.2.1
      rw [h2] at this
      rcases z with z | z | z | z <;> omega
    · rw [List.append_assoc]
      refine h7 b q' _ ?_
      rw [f2, show 9 - (k + 1) = f by omega] at t
      rw [hf]
      refine ⟨true, zP9 A, w, n, L, h6, ?_⟩
      rw [if_neg (by decide), if_neg e, if_pos ⟨rfl, f1⟩]
      exact ⟨S', t, rfl⟩
theorem zOm9_rs {d k : Nat} {M Y : pvM} (hs : zRs M) (h : zOm9 d k M Y) : zRs Y := zKh_p hs h.1.1 h.1.2.1 (by have := h.1.2.2.1; omega)
theorem zOp9_rs {d k : Nat} {M Y : pvM} (hs : zRs M) (h : zOp9 d k M Y) : zRs Y := zKh_p hs h.1 h.2.1 (by have := h.2.2.1; omega)
theorem zLO9_q {d n : Nat} {M Y : pvM} (h : zLO9 d n M Y) : zRq Y := by
  obtain ⟨L, a, _⟩ := h
  exact a.1
theorem zLB9_q {d n : Nat} {M Y : pvM} (h : zLB9 d n M Y) : zRq Y := by
  obtain ⟨L, a, _⟩ := h
  exact a.1
theorem zi_nle {a b : Int32} (h : ¬ b ≤ a) : a < b := by
  rw [zi_le] at h
  rw [zi_lt]
  omega
theorem zi_nlt {a b : Int32} (h : b ≤ a) : ¬ a < b := by
  rw [zi_le] at h
  rw [zi_lt]
  omega
/-! the reference's reader, by signs -/
def zs10 (M : pvM) (p : Nat) : Int32 := if (p : Int) < (M.1 124 16).toInt then M.1 132 p else -1
def zP10 (M : pvM) : Nat := Int32.toNatClampNeg (M.1 124 17)
/-- the text stays; the place is in it, or just behind -/
def zTv (M X : pvM) : Prop := X.1 124 16 = M.1 124 16 ∧ (∀ i : Nat, X.1 132 i = M.1 132 i) ∧ ((M.1 124 17).toInt ≤ (M.1 124 16).toInt → (X.1 124 17).toInt ≤ (X.1 124 16).toInt)
theorem zTv_r (M : pvM) : zTv M M := ⟨rfl, fun _ => rfl, fun h => h⟩
theorem zTs_t {M Y X : pvM} (h : zTv M Y) (k : zTv Y X) : zTv M X := ⟨k.1.trans h.1, fun i => (k.2.1 i).trans (h.2.1 i), fun z => k.2.2 (h.2.2 z)⟩
theorem zTs_s {M X : pvM} (h : zTv M X) : zs10 X = zs10 M := by
  funext p
  unfold zs10
  rw [h.1, h.2.1]
/-- but for the place (and the digits) all stays -/
def zKr (M X : pvM) : Prop := ∀ a b : Nat, ¬ (a = 124 ∧ (b = 17 ∨ b = 18)) → X.1 a b = M.1 a b
theorem zKr_r (M : pvM) : zKr M M := fun _ _ _ => rfl
theorem zKr_t {M Y X : pvM} (h : zKr M Y) (k : zKr Y X) : zKr M X := fun a b z => (k a b z).trans (h a b z)
theorem zKr_u {M X : pvM} {k : Nat} {v : Int32} (e : X = pvu M 124 k v) (h : k = 17 ∨ k = 18) : zKr M X := fun a b z => pvu_n e a b (by
  by_cases c : a = 124
  · exact Or.inr (fun u => z ⟨c, by rw [u]; exact h⟩)
  · exact Or.inl c)
theorem zKr_T {M X : pvM} (h : zKr M X) (k : (M.1 124 17).toInt ≤ (M.1 124 16).toInt → (X.1 124 17).toInt ≤ (M.1 124 16).toInt) : zTv M X := ⟨h 124 16 (by decide), fun i => h 132 i (by omega), fun z => by rw [h 124 16 (by decide)]; exact k z⟩
theorem zpk_e {M : pvM} (hok : pvOk M) (h : M.1 124 16 ≤ M.1 124 17) : zs10 M (zP10 M) = -1 := by
  have r := pvok_r hok 124 17 (lo := 0) (hi := 100) rfl
  have e := ztn _ r.1
  rw [zi_le] at h
  unfold zs10 zP10
  exact if_neg (by omega)
theorem zpk_t {M : pvM} (hok : pvOk M) (h : ¬ M.1 124 16 ≤ M.1 124 17) : zs10 M (zP10 M) = M.1 132 (Int32.toNatClampNeg (M.1 124 17)) := by
  have r := pvok_r hok 124 17 (lo := 0) (hi := 100) rfl
  have e := ztn _ r.1
  rw [zi_le] at h
  unfold zs10 zP10
  exact if_pos (by omega)
theorem zat_1 {M X : pvM} (hok : pvOk M) (h : ¬ M.1 124 16 ≤ M.1 124 17) (e : X.1 124 17 = M.1 124 17 + 1) : zP10 X = zP10 M + 1 ∧ (X.1 124 17).toInt ≤ (M.1 124 16).toInt := by
  have r := pvok_r hok 124 17 (lo := 0) (hi := 100) rfl
  have r2 := pvok_r hok 124 16 (lo := 0) (hi := 100) rfl
  have e0 := ztn _ r.1
  rw [zi_le] at h
  have s : (X.1 124 17).toInt = (M.1 124 17).toInt + 1 := by rw [e, zadd_1 _ (by omega)]
  have e1 := ztn (X.1 124 17) (by omega)
  unfold zP10
  omega
/-- a sign, a word, a number -/
def zQb (T : (Nat → Int32) → Nat → Bool → Nat → Prop) (r : Option pvV) (M X : pvM) : Prop := zKr M X ∧ zTv M X ∧ ∃ b : Bool, r = some (pvI (bif b then 1 else 0)) ∧ T (zs10 M) (zP10 M) b (zP10 X)
theorem zQb_y {T : (Nat → Int32) → Nat → Bool → Nat → Prop} {x : Int32} {M X : pvM} (h : zQb T (some (pvI x)) M X) (c : ¬ x = 0) : zKr M X ∧ zTv M X ∧ T (zs10 M) (zP10 M) true (zP10 X) := by
  obtain ⟨a, b, t, e, k⟩ := h
  have e : x = bif t then 1 else 0 := Sum.inl.inj (Option.some.inj e)
  cases t
  · exact absurd e c
  · exact ⟨a, b, k⟩
theorem zQb_n {T : (Nat → Int32) → Nat → Bool → Nat → Prop} {x : Int32} {M X : pvM} (h : zQb T (some (pvI x)) M X) (c : x = 0) : zKr M X ∧ zTv M X ∧ T (zs10 M) (zP10 M) false (zP10 X) := by
  obtain ⟨a, b, t, e, k⟩ := h
  have e : x = bif t then 1 else 0 := Sum.inl.inj (Option.some.inj e)
  cases t
  · exact ⟨a, b, k⟩
  · rw [c] at e
    exact absurd e (by decide)
theorem zQs_e {n1 : Int32} {M : pvM} (hok : pvOk M) (hn : 0 ≤ n1.toInt ∧ n1.toInt ≤ 127) (h : M.1 124 16 ≤ M.1 124 17) : zQb (zTsg n1) (some (pvI 0)) M M := by
  refine ⟨zKr_r M, zTv_r M, false, rfl, ?_⟩
  unfold zTsg
  rw [zpk_e hok h, if_neg (fun z => by rw [← z] at hn; exact absurd hn.1 (by decide))]
  exact ⟨rfl, rfl⟩
theorem zQs_n {n1 : Int32} {M : pvM} (hok : pvOk M) (h : ¬ M.1 124 16 ≤ M.1 124 17) (c : ¬ M.1 132 (Int32.toNatClampNeg (M.1 124 17)) = n1) : zQb (zTsg n1) (some (pvI 0)) M M := by
  refine ⟨zKr_r M, zTv_r M, false, rfl, ?_⟩
  unfold zTsg
  rw [zpk_t hok h, if_neg c]
  exact ⟨rfl, rfl⟩
theorem zQs_y {n1 : Int32} {M X : pvM} (hok : pvOk M) (h : ¬ M.1 124 16 ≤ M.1 124 17) (c : M.1 132 (Int32.toNatClampNeg (M.1 124 17)) = n1) (e : X = pvu M 124 17 (M.1 124 17 + 1)) : zQb (zTsg n1) (some (pvI 1)) M X := by
  obtain ⟨a1, a2⟩ := zat_1 hok h (pvu_s e)
  refine ⟨zKr_u e (Or.inl rfl), zKr_T (zKr_u e (Or.inl rfl)) (fun _ => a2), true, rfl, ?_⟩
  unfold zTsg
  rw [zpk_t hok h, if_pos c]
  exact ⟨rfl, a1⟩
/-- the letters of the words -/
def zLet (M : pvM) : Prop := ∀ i : Nat, i < 15 → M.1 140 i = [119, 101, 116, 100, 114, 121, 115, 116, 97, 105, 114, 108, 97, 115, 116].getD i 0
def zwl (M : pvM) (a n : Nat) : List Int32 := (List.range n).map (fun k => M.1 140 (a + k)) ++ [32]
theorem zwl_l (M : pvM) (a n : Nat) : (zwl M a n).length = n + 1 := by
  unfold zwl
  rw [List.length_append, List.length_map, List.length_range]
  rfl
theorem zwl_i {M : pvM} {a n i : Nat} (h : i < n) : (zwl M a n).getD i 0 = M.1 140 (a + i) := by
  unfold zwl
  rw [List.getD_eq_getElem?_getD, List.getElem?_append_left (by rw [List.length_map, List.length_range]; exact h), List.getElem?_map, List.getElem?_range h]
  rfl
theorem zwl_n (M : pvM) (a n : Nat) : (zwl M a n).getD n 0 = 32 := by
  unfold zwl
  rw [List.getD_eq_getElem?_getD, List.getElem?_append_right (by rw [List.length_map, List.length_range]; exact Nat.le_refl _), List.length_map, List.length_range, Nat.sub_self]
  rfl
def zLv (l : List Int32) (i : Nat) (M X : pvM) : Prop := zKr M X ∧ zTv M X ∧ zwd (zs10 M) l (zP10 M) = zwd (zs10 M) (l.drop i) (zP10 X)
theorem zLv_0 {l : List Int32} {M : pvM} : zLv l (Int32.toNatClampNeg 0) M M := ⟨zKr_r M, zTv_r M, rfl⟩
theorem zLv_n {l : List Int32} {n n' : Nat} {M X : pvM} (e : n' = n) (h : zLv l n M X) : zLv l n' M X := e ▸ h
theorem zLv_s {l : List Int32} {i : Nat} {x c : Int32} {M Y X : pvM} (h : zLv l i M Y) (hi : i < l.length) (hc : l.getD i 0 = c) (d : zQb (zTsg c) (some (pvI x)) Y X) (n : ¬ x = 0) : zLv l (i + 1) M X := by
  obtain ⟨a, b, e⟩ := zQb_y d n
  obtain ⟨e1, e2⟩ := zTsg_y e
  refine ⟨zKr_t h.1 a, zTs_t h.2.1 b, ?_⟩
  rw [h.2.2, List.drop_eq_getElem_cons hi, e2]
  show (if _ = _ then _ else _) = _
  rw [if_pos]
  rw [← zTs_s h.2.1, e1, ← hc, List.getD_eq_getElem?_getD, List.getElem?_eq_getElem hi]
  rfl
theorem zLv_f {l : List Int32} {i : Nat} {x c : Int32} {M Y X : pvM} (h : zLv l i M Y) (hi : i < l.length) (hc : l.getD i 0 = c) (d : zQb (zTsg c) (some (pvI x)) Y X) (n : x = 0) : zQb (zTw l) (some (pvI 0)) M X := by
  obtain ⟨a, b, e⟩ := zQb_n d n
  obtain ⟨e1, e2⟩ := zTsg_n e
  refine ⟨zKr_t h.1 a, zTs_t h.2.1 b, false, rfl, ?_⟩
  unfold zTw
  rw [h.2.2, List.drop_eq_getElem_cons hi, e2]
  show (if _ = _ then _ else _) = _
  rw [if_neg]
  rw [← zTs_s h.2.1]
  rw [← hc, List.getD_eq_getElem?_getD, List.getElem?_eq_getElem hi] at e1
  exact e1
theorem zLv_e {l : List Int32} {i : Nat} {x : Int32} {M Y X : pvM} (h : zLv l i M Y) (hi : l.length = i + 1) (hc : l.getD i 0 = 32) (d : zQb (zTsg 32) (some (pvI x)) Y X) (hx : x = 0 ∨ x = 1) : zQb (zTw l) (some (pvI x)) M X := by
  rcases hx with rfl | rfl
  · exact zLv_f h (by omega) hc d rfl
  · have k := zLv_s h (by omega) hc d (by decide)
    refine ⟨k.1, k.2.1, true, rfl, ?_⟩
    unfold zTw
    rw [k.2.2, List.drop_eq_nil_of_le (by omega)]
    rfl
/-- a number -/
def zQn (r : Option pvV) (M X : pvM) : Prop := zKr M X ∧ zTv M X ∧ ∃ b : Bool, r = some (pvI (bif b then 1 else 0)) ∧ b = (znu (zs10 M) (zP10 M)).1 ∧ zP10 X = (znu (zs10 M) (zP10 M)).2.1 ∧ (b = true → X.1 124 18 = (znu (zs10 M) (zP10 M)).2.2)
theorem zQn_n {M : pvM} (h : ¬ zdig (zs10 M (zP10 M)) = true) : zQn (some (pvI 0)) M M := by
  refine ⟨zKr_r M, zTv_r M, false, rfl, ?_, ?_, fun z => absurd z (by decide)⟩
  · unfold znu
    rw [if_neg h]
  · unfold znu
    rw [if_neg h]
theorem zdig_e {M : pvM} (hok : pvOk M) (h : M.1 124 16 ≤ M.1 124 17) : ¬ zdig (zs10 M (zP10 M)) = true := by
  rw [zpk_e hok h]
  decide
theorem zdig_t {M : pvM} (hok : pvOk M) (h : ¬ M.1 124 16 ≤ M.1 124 17) (c : M.1 132 (Int32.toNatClampNeg (M.1 124 17)) < 48 ∨ 57 < M.1 132 (Int32.toNatClampNeg (M.1 124 17))) : ¬ zdig (zs10 M (zP10 M)) = true := by
  rw [zpk_t hok h]
  exact zdig_n c
/-- one digit more -/
def zDg (M Y X : pvM) : Prop := ∃ A : pvM, A = pvu Y 124 18 (((10 * Y.1 124 18) + Y.1 132 (Int32.toNatClampNeg (Y.1 124 17))) - 48) ∧ X = pvu A 124 17 (A.1 124 17 + 1)
theorem zQn_1 {M M0 A X : pvM} (hok : pvOk M) (h : ¬ M.1 124 16 ≤ M.1 124 17) (c1 : ¬ M.1 132 (Int32.toNatClampNeg (M.1 124 17)) < 48) (c2 : ¬ 57 < M.1 132 (Int32.toNatClampNeg (M.1 124 17))) (e0 : M0 = pvu M 124 18 0) (e1 : A = pvu M0 124 18 (((10 * M0.1 124 18) + M0.1 132 (Int32.toNatClampNeg (M0.1 124 17))) - 48)) (e2 : X = pvu A 124 17 (A.1 124 17 + 1)) : zKr M X ∧ zTv M X ∧ zP10 X = zP10 M + 1 ∧ zdig (zs10 M (zP10 M)) = true ∧ X.1 124 18 = zs10 M (zP10 M) - 48 := by
  have kr := zKr_t (zKr_t (zKr_u e0 (Or.inr rfl)) (zKr_u e1 (Or.inr rfl))) (zKr_u e2 (Or.inl rfl))
  have a17 : A.1 124 17 = M.1 124 17 := (pvu_n e1 124 17 (Or.inr (by decide))).trans (pvu_n e0 124 17 (Or.inr (by decide)))
  obtain ⟨b1, b2⟩ := zat_1 (X := X) hok h (by rw [pvu_s e2, a17])
  refine ⟨kr, zKr_T kr (fun _ => b2), b1, by rw [zpk_t hok h]; exact zdig_y c1 c2, ?_⟩
  rw [pvu_n e2 124 18 (Or.inr (by decide)), pvu_s e1, pvu_s e0, pvu_n e0 124 17 (Or.inr (by decide)), pvu_n e0 132 _ (Or.inl (by decide)), zpk_t hok h, Int32.mul_zero, Int32.zero_add]
theorem zQn_2 {M M0 A Y : pvM} (hok : pvOk M) (h : ¬ M.1 124 16 ≤ M.1 124 17) (c1 : ¬ M.1 132 (Int32.toNatClampNeg (M.1 124 17)) < 48) (c2 : ¬ 57 < M.1 132 (Int32.toNatClampNeg (M.1 124 17))) (e0 : M0 = pvu M 124 18 0) (e1 : A = pvu M0 124 18 (((10 * M0.1 124 18) + M0.1 132 (Int32.toNatClampNeg (M0.1 124 17))) - 48)) (e2 : Y = pvu A 124 17 (A.1 124 17 + 1)) (n : ¬ zdig (zs10 Y (zP10 Y)) = true) : zQn (some (pvI 1)) M Y := by
  obtain ⟨k1, k2, k3, k4, k5⟩ := zQn_1 hok h c1 c2 e0 e1 e2
  rw [zTs_s k2, k3] at n
  refine ⟨k1, k2, true, rfl, ?_, ?_, fun _ => ?_⟩ <;> unfold znu <;> rw [if_pos k4, if_neg n]
  · exact k3
  · exact k5
theorem zQn_3 {M M0 A Y B X : pvM} (hok : pvOk M) (h : ¬ M.1 124 16 ≤ M.1 124 17) (c1 : ¬ M.1 132 (Int32.toNatClampNeg (M.1 124 17)) < 48) (c2 : ¬ 57 < M.1 132 (Int32.toNatClampNeg (M.1 124 17))) (e0 : M0 = pvu M 124 18 0) (e1 : A = pvu M0 124 18 (((10 * M0.1 124 18) + M0.1 132 (Int32.toNatClampNeg (M0.1 124 17))) - 48)) (e2 : Y = pvu A 124 17 (A.1 124 17 + 1)) (hoy : pvOk Y) (hy : ¬ Y.1 124 16 ≤ Y.1 124 17) (d1 : ¬ Y.1 132 (Int32.toNatClampNeg (Y.1 124 17)) < 48) (d2 : ¬ 57 < Y.1 132 (Int32.toNatClampNeg (Y.1 124 17))) (e3 : B = pvu Y 124 18 (((10 * Y.1 124 18) + Y.1 132 (Int32.toNatClampNeg (Y.1 124 17))) - 48)) (e4 : X = pvu B 124 17 (B.1 124 17 + 1)) : zQn (some (pvI 1)) M X := by
  obtain ⟨k1, k2, k3, k4, k5⟩ := zQn_1 hok h c1 c2 e0 e1 e2
  have kr := zKr_t (zKr_u e3 (Or.inr rfl)) (zKr_u e4 (Or.inl rfl))
  obtain ⟨b1, b2⟩ := zat_1 (X := X) hoy hy (by rw [pvu_s e4, pvu_n e3 124 17 (Or.inr (by decide))])
  have y : zs10 Y (zP10 Y) = zs10 M (zP10 M + 1) := by rw [zTs_s k2, k3]
  have k6 : zdig (zs10 M (zP10 M + 1)) = true := by rw [← y, zpk_t hoy hy]; exact zdig_y d1 d2
  refine ⟨zKr_t k1 kr, zTs_t k2 (zKr_T kr (fun _ => b2)), true, rfl, ?_, ?_, fun _ => ?_⟩ <;> unfold znu <;> rw [if_pos k4, if_pos k6]
  · show zP10 X = zP10 M + 2
    rw [b1, k3]
  · rw [pvu_n e4 124 18 (Or.inr (by decide)), pvu_s e3, k5, ← zpk_t hoy hy, y]
