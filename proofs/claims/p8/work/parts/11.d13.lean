/-! a clause of the reference's reader -/
theorem zhw_4 {c : Int32} {w : Nat} {l : List Int32} (h : zhw c = some (w, l)) : w < 4 := by
  unfold zhw at h
  split at h
  · have := (Prod.mk.inj (Option.some.inj h)).1; omega
  · split at h
    · have := (Prod.mk.inj (Option.some.inj h)).1; omega
    · split at h
      · have := (Prod.mk.inj (Option.some.inj h)).1; omega
      · split at h
        · have := (Prod.mk.inj (Option.some.inj h)).1; omega
        · exact absurd h (by simp)
theorem zQh_y {c : Nat} {x : Int32} {M X : pvM} (h : zQh c (some (pvI x)) M X) (n : ¬ x = 0) : zTv M X ∧ (∀ a b : Nat, ¬ (a = 124 ∧ (b = 17 ∨ b = 18)) → a ≠ 134 → X.1 a b = M.1 a b) ∧ ∃ (w : Nat) (l : List Int32), zhw (zs10 M (zP10 M)) = some (w, l) ∧ zwd (zs10 M) l (zP10 M) = (true, zP10 X) ∧ X.1 134 c = nI w := by
  obtain ⟨a1, a2, b, e, a3⟩ := h
  have e : x = bif b then 1 else 0 := Sum.inl.inj (Option.some.inj e)
  have hb : b = true := by
    cases b
    · exact absurd e n
    · rfl
  subst hb
  refine ⟨a1, a2, ?_⟩
  cases k : zhw (zs10 M (zP10 M)) with
  | none => rw [k] at a3; exact absurd a3.1 (by decide)
  | some q =>
    obtain ⟨w, l⟩ := q
    rw [k] at a3
    exact ⟨w, l, rfl, a3.1, a3.2⟩
theorem zQh_n {c : Nat} {x : Int32} {M X : pvM} (h : zQh c (some (pvI x)) M X) (n : x = 0) : zTv M X ∧ ∀ (w : Nat) (m : Int32) (L : List Int32), zCl (zs10 M) (zP10 M) false (zP10 X) w m L := by
  obtain ⟨a1, a2, b, e, a3⟩ := h
  have e : x = bif b then 1 else 0 := Sum.inl.inj (Option.some.inj e)
  have hb : b = false := by
    cases b
    · rfl
    · rw [n] at e; exact absurd e (by decide)
  subst hb
  refine ⟨a1, fun w m L => ?_⟩
  unfold zCl
  cases k : zhw (zs10 M (zP10 M)) with
  | none => rw [k] at a3; exact ⟨rfl, a3.2⟩
  | some q =>
    obtain ⟨w', l⟩ := q
    rw [k] at a3
    dsimp only
    rw [a3.1, if_pos rfl]
    exact ⟨rfl, rfl⟩
def zQC (c : Nat) (r : Option pvV) (M X : pvM) : Prop := zTv M X ∧ ∃ (b : Bool) (w : Nat) (n : Int32) (L : List Int32), r = some (pvI (bif b then 1 else 0)) ∧ zCl (zs10 M) (zP10 M) b (zP10 X) w n L ∧ (b = true → X.1 134 c = nI w ∧ X.1 135 c = n ∧ (X.1 124 27).toInt = (M.1 124 27).toInt + L.length ∧ (w < 2 → X.1 136 c = M.1 124 27 ∧ X.1 137 c = X.1 124 27) ∧ ∀ i : Nat, i < L.length → X.1 138 (Int32.toNatClampNeg (M.1 124 27) + i) = L.getD i 0)
theorem zQC_1 {c : Nat} {x : Int32} {M X : pvM} (h : zQh c (some (pvI x)) M X) (n : x = 0) : zQC c (some (pvI 0)) M X := by
  obtain ⟨a, b⟩ := zQh_n h n
  exact ⟨a, false, 0, 0, [], rfl, b 0 0 [], fun z => absurd z (by decide)⟩
theorem zQC_2 {c : Nat} {x y : Int32} {M H X : pvM} (h : zQh c (some (pvI x)) M H) (n : ¬ x = 0) (d : zQn (some (pvI y)) H X) (n2 : y = 0) : zQC c (some (pvI 0)) M X := by
  obtain ⟨a1, a2, w, l, a3, a4, a5⟩ := zQh_y h n
  obtain ⟨b1, b2, b3, b4, b5⟩ := zQn_c d
  have b4 := b4 n2
  rw [zTs_s a1] at b3 b4
  refine ⟨zTs_t a1 b2, false, w, 0, [], rfl, ?_, fun z => absurd z (by decide)⟩
  unfold zCl
  rw [a3]
  dsimp only
  rw [a4, if_neg (by simp)]
  dsimp only
  rw [if_pos b4]
  exact ⟨rfl, b3⟩
/-- the word and the number are read and laid -/
def zQN (c : Nat) (M N : pvM) (w : Nat) (n : Int32) : Prop := zTv M N ∧ w < 4 ∧ N.1 134 c = nI w ∧ N.1 135 c = n ∧ (N.1 124 27 = M.1 124 27 ∧ ∀ i : Nat, N.1 138 i = M.1 138 i) ∧ ∀ {b : Bool} {r : Nat} {L : List Int32}, (if 2 ≤ w then b = true ∧ r = zP10 N ∧ L = [] else if zs10 M (zP10 N) = 32 then zyE (zs10 M) (zP10 N + 1) b r L else b = false ∧ r = zP10 N) → zCl (zs10 M) (zP10 M) b r w n L
theorem zQN_i {c : Nat} {x y : Int32} {M H Y N : pvM} (h : zQh c (some (pvI x)) M H) (n : ¬ x = 0) (d : zQn (some (pvI y)) H Y) (n2 : ¬ y = 0) (e : N = pvu Y 135 c (Y.1 124 18)) : ∃ (w : Nat) (m : Int32), zQN c M N w m := by
  obtain ⟨a1, a2, w, l, a3, a4, a5⟩ := zQh_y h n
  obtain ⟨b1, b2, b3, b4, b5⟩ := zQn_c d
  obtain ⟨b5, b6⟩ := b5 n2
  rw [zTs_s a1] at b3 b5 b6
  have f : ∀ a b : Nat, a ≠ 135 → N.1 a b = Y.1 a b := fun a b z => pvu_n e a b (Or.inl z)
  have ty : zTv Y N := ⟨f 124 16 (by decide), fun i => f 132 i (by decide), fun z => by rw [f 124 16 (by decide), f 124 17 (by decide)]; exact z⟩
  have p : zP10 N = zP10 Y := by unfold zP10; rw [f 124 17 (by decide)]
  refine ⟨w, _, zTs_t (zTs_t a1 b2) ty, zhw_4 a3, ?_, (pvu_s e).trans b6, ⟨?_, fun i => ?_⟩, fun {b r L} k => ?_⟩
  · rw [f 134 c (by decide), b1 134 c (by omega)]; exact a5
  · rw [f 124 27 (by decide), b1 124 27 (by decide)]; exact a2 124 27 (by decide) (by decide)
  · rw [f 138 i (by decide), b1 138 i (by omega)]; exact a2 138 i (by omega) (by decide)
  · rw [p] at k
    unfold zCl
    rw [a3]
    dsimp only
    rw [a4, if_neg (by simp)]
    dsimp only
    rw [if_neg (by rw [b5]; decide), ← b3]
    by_cases c2 : 2 ≤ w
    · rw [if_pos c2] at k ⊢
      exact ⟨k.1, k.2.1, rfl, rfl, k.2.2⟩
    · rw [if_neg c2] at k ⊢
      by_cases c3 : zs10 M (zP10 Y) = 32
      · rw [if_pos c3] at k ⊢
        exact ⟨k, rfl, rfl⟩
      · rw [if_neg c3] at k ⊢
        exact k
theorem zQC_3 {c w : Nat} {m : Int32} {M N : pvM} (h : zQN c M N w m) (hw : 2 ≤ (N.1 134 c).toInt) : zQC c (some (pvI 1)) M N := by
  obtain ⟨h1, h2, h3, h4, ⟨h5, h7⟩, h6⟩ := h
  rw [h3, nI_toInt (by omega)] at hw
  refine ⟨h1, true, w, m, [], rfl, h6 (by rw [if_pos (by omega)]; exact ⟨rfl, rfl, rfl⟩), fun _ => ⟨h3, h4, by rw [h5]; exact (Int.add_zero _).symm, fun z => absurd z (by omega), fun i z => absurd z (Nat.not_lt_zero _)⟩⟩
theorem zQC_4 {c w : Nat} {m x : Int32} {M N X : pvM} (h : zQN c M N w m) (hw : (N.1 134 c).toInt < 2) (d : zQb (zTsg 32) (some (pvI x)) N X) (n : x = 0) : zQC c (some (pvI 0)) M X := by
  obtain ⟨h1, h2, h3, h4, ⟨h5, h7⟩, h6⟩ := h
  rw [h3, nI_toInt (by omega)] at hw
  obtain ⟨a1, a2, a3⟩ := zQb_n d n
  obtain ⟨f1, f2⟩ := zTsg_n a3
  rw [zTs_s h1] at f1
  exact ⟨zTs_t h1 a2, false, w, m, [], rfl, h6 (by rw [if_neg (by omega), if_neg f1]; exact ⟨rfl, f2⟩), fun z => absurd z (by decide)⟩
theorem zQC_5 {c w : Nat} {m x y : Int32} {M N T X : pvM} (h : zQN c M N w m) (hw : (N.1 134 c).toInt < 2) (d : zQb (zTsg 32) (some (pvI x)) N T) (n : ¬ x = 0) (d2 : zQE c (some (pvI y)) T X) (r134 : X.1 134 = T.1 134) (r135 : X.1 135 = T.1 135) : zQC c (some (pvI y)) M X := by
  obtain ⟨h1, h2, h3, h4, ⟨h5, h7⟩, h6⟩ := h
  rw [h3, nI_toInt (by omega)] at hw
  obtain ⟨a1, a2, a3⟩ := zQb_y d n
  obtain ⟨f1, f2⟩ := zTsg_y a3
  have tt := zTs_t h1 a2
  rw [zTs_s h1] at f1
  obtain ⟨b1, b, L, b2, b3, b4⟩ := d2
  rw [zTs_s tt, f2] at b3
  refine ⟨zTs_t tt b1, b, w, m, L, b2, h6 (by rw [if_neg (by omega), if_pos f1]; exact b3), fun z => ?_⟩
  obtain ⟨c1, c2, c3, c4⟩ := b4 z
  have t27 : T.1 124 27 = M.1 124 27 := (a1 124 27 (by decide)).trans h5
  rw [t27] at c1 c3 c4
  refine ⟨by rw [r134, a1 134 c (by omega)]; exact h3, by rw [r135, a1 135 c (by omega)]; exact h4, c3, fun _ => ⟨c1, c2⟩, c4⟩
/-! a text of the reference's reader -/
def zsl10 (M : pvM) (a b : Nat) : List Int32 := (List.range (b - a)).map (fun j => M.1 138 (a + j))
theorem zsl10_c {M X : pvM} {a b : Nat} (h : ∀ j : Nat, j < b → X.1 138 j = M.1 138 j) : zsl10 X a b = zsl10 M a b := by
  unfold zsl10
  refine List.map_congr_left (fun j hj => ?_)
  have := List.mem_range.mp hj
  exact h _ (by omega)
theorem zsl10_L {X : pvM} {a : Nat} {L : List Int32} (h : ∀ j : Nat, j < L.length → X.1 138 (a + j) = L.getD j 0) : zsl10 X a (a + L.length) = L := by
  unfold zsl10
  rw [Nat.add_sub_cancel_left]
  refine List.ext_getElem (by rw [List.length_map, List.length_range]) (fun j h1 h2 => ?_)
  rw [List.getElem_map, List.getElem_range, h j h2, List.getD_eq_getElem?_getD, List.getElem?_eq_getElem h2]
  rfl
/-- the clauses as the reference keeps them -/
def zHb (Y : pvM) (f : Nat) (S : List (Nat × Int32 × List Int32)) : Prop := ∀ (i : Nat) (x : Nat × Int32 × List Int32), S[i]? = some x → (x.1 < 4 ∧ Y.1 134 (10 * f + i) = nI x.1) ∧ Y.1 135 (10 * f + i) = x.2.1 ∧ (x.1 < 2 → zsl10 Y (Int32.toNatClampNeg (Y.1 136 (10 * f + i))) (Int32.toNatClampNeg (Y.1 137 (10 * f + i))) = x.2.2 ∧ Int32.toNatClampNeg (Y.1 136 (10 * f + i)) ≤ Int32.toNatClampNeg (Y.1 137 (10 * f + i)) ∧ Int32.toNatClampNeg (Y.1 137 (10 * f + i)) ≤ 100 * f + 100)
def zHR (Y : pvM) (f : Nat) (S : List (Nat × Int32 × List Int32)) : Prop := (Y.1 133 f).toInt = (S.length : Int) ∧ zHb Y f S
theorem zHb_k {M X : pvM} {f : Nat} {S : List (Nat × Int32 × List Int32)} (h : zHb M f S) (k : ∀ i : Nat, i < S.length → X.1 134 (10 * f + i) = M.1 134 (10 * f + i) ∧ X.1 135 (10 * f + i) = M.1 135 (10 * f + i) ∧ X.1 136 (10 * f + i) = M.1 136 (10 * f + i) ∧ X.1 137 (10 * f + i) = M.1 137 (10 * f + i)) (k8 : ∀ (i j : Nat) (x : Nat × Int32 × List Int32), S[i]? = some x → x.1 < 2 → j < Int32.toNatClampNeg (M.1 137 (10 * f + i)) → X.1 138 j = M.1 138 j) : zHb X f S := fun i x e => by
  have hi := (List.getElem?_eq_some_iff.mp e).1
  obtain ⟨k1, k2, k3, k4⟩ := k i hi
  obtain ⟨a1, a2, a3⟩ := h i x e
  rw [k1, k2, k3, k4]
  refine ⟨a1, a2, fun z => ?_⟩
  rw [zsl10_c (M := M) (fun j hj => k8 i j x e z hj)]
  exact a3 z
/-- what stays of the other texts -/
def zQf (f : Nat) (M X : pvM) : Prop := (∀ k : Nat, k < 10 * f → X.1 134 k = M.1 134 k ∧ X.1 135 k = M.1 135 k ∧ X.1 136 k = M.1 136 k ∧ X.1 137 k = M.1 137 k) ∧ (∀ k : Nat, k < 100 * f → X.1 138 k = M.1 138 k) ∧ ∀ k : Nat, k ≠ f → X.1 133 k = M.1 133 k
theorem zQf_t {f : Nat} {M Y X : pvM} (h : zQf f M Y) (k : zQf f Y X) : zQf f M X := ⟨fun i z => ⟨(k.1 i z).1.trans (h.1 i z).1, (k.1 i z).2.1.trans (h.1 i z).2.1, (k.1 i z).2.2.1.trans (h.1 i z).2.2.1, (k.1 i z).2.2.2.trans (h.1 i z).2.2.2⟩, fun i z => (k.2.1 i z).trans (h.2.1 i z), fun i z => (k.2.2 i z).trans (h.2.2 i z)⟩
def zQX (f : Nat) (r : Option pvV) (M X : pvM) : Prop := zQf f M X ∧ ∃ (b : Bool) (S : List (Nat × Int32 × List Int32)), r = some (pvI (bif b then 1 else 0)) ∧ zTX (zs10 M) 9 0 b (zP10 X) S ∧ (b = true → zHR X f S)
def zGt (f k : Nat) (M Y : pvM) : Prop := zQf f M Y ∧ (Y.1 124 16 = M.1 124 16 ∧ ∀ i : Nat, Y.1 132 i = M.1 132 i) ∧ (Y.1 124 17).toInt ≤ (Y.1 124 16).toInt ∧ ∃ S : List (Nat × Int32 × List Int32), S.length = k ∧ zHb Y f S ∧ (∀ (i : Nat) (x : Nat × Int32 × List Int32), S[i]? = some x → x.1 < 2 → (Y.1 137 (10 * f + i)).toInt ≤ (Y.1 124 27).toInt) ∧ ∀ (b : Bool) (q' : Nat) (S' : List (Nat × Int32 × List Int32)), zTX (zs10 M) (9 - k) (zP10 Y) b q' S' → zTX (zs10 M) 9 0 b q' (S ++ S')
theorem zs10_k {M X : pvM} (h : X.1 124 16 = M.1 124 16 ∧ ∀ i : Nat, X.1 132 i = M.1 132 i) : zs10 X = zs10 M := by
  funext p
  unfold zs10
  rw [h.1, h.2]
theorem zGt_n {f k k' : Nat} {M X : pvM} (e : k' = k) (h : zGt f k M X) : zGt f k' M X := e ▸ h
theorem zGt_0 {f : Nat} {M A B : pvM} {v : Int32} (hok : pvOk M) (e1 : A = pvu M 124 17 0) (e2 : B = pvu A 124 27 v) : zGt f (Int32.toNatClampNeg 0) M B := by
  have g : ∀ a b, a ≠ 124 → B.1 a b = M.1 a b := fun a b z => (pvu_n e2 a b (Or.inl z)).trans (pvu_n e1 a b (Or.inl z))
  have c16 : B.1 124 16 = M.1 124 16 := (pvu_n e2 124 16 (Or.inr (by decide))).trans (pvu_n e1 124 16 (Or.inr (by decide)))
  have c17 : B.1 124 17 = 0 := (pvu_n e2 124 17 (Or.inr (by decide))).trans (pvu_s e1)
  have r := pvok_r hok 124 16 (lo := 0) (hi := 100) rfl
  refine ⟨⟨fun i _ => ⟨g _ _ (by decide), g _ _ (by decide), g _ _ (by decide), g _ _ (by decide)⟩, fun i _ => g _ _ (by decide), fun i _ => g _ _ (by decide)⟩, ⟨c16, fun i => g _ _ (by decide)⟩, ?_, [], rfl, fun i x e => absurd e (by simp), fun i x e => absurd e (by simp), fun b q' S' h => ?_⟩
  · rw [c16, c17]
    have u : (0 : Int32).toInt = 0 := by decide
    omega
  · have p : zP10 B = 0 := by unfold zP10; rw [c17]; decide
    rw [p] at h
    exact h
/-- what a clause leaves as it was -/
def zCfr (c : Nat) (M X : pvM) : Prop := zR2 M X c ∧ (∀ k : Nat, k ≠ c → X.1 135 k = M.1 135 k) ∧ ∀ k : Nat, X.1 133 k = M.1 133 k
theorem zCfr_f {f k c : Nat} {M X : pvM} (h : zCfr c M X) (hc : c = 10 * f + k) (h27 : (100 * f : Int) ≤ (M.1 124 27).toInt) : zQf f M X := by
  subst hc
  obtain ⟨⟨⟨g1, g2⟩, g3⟩, g4, g5⟩ := h
  exact ⟨fun i z => ⟨g3 i (by omega), g4 i (by omega), (g1 i (by omega)).1, (g1 i (by omega)).2⟩, fun i z => g2 i (by omega), fun i z => g5 i⟩
theorem zGt_f {f k c : Nat} {x : Int32} {M Y X : pvM} (h : zGt f k M Y) (hc : c = 10 * f + k) (h27 : (100 * f : Int) ≤ (Y.1 124 27).toInt) (d : zQC c (some (pvI x)) Y X) (n : x = 0) (df : zCfr c Y X) : zQX f (some (pvI 0)) M X := by
  obtain ⟨h1, h2, h3, S, h4, h5, h6, h7⟩ := h
  obtain ⟨a1, b, w, m, L, e, a2, a3⟩ := d
  have e : x = bif b then 1 else 0 := Sum.inl.inj (Option.some.inj e)
  have hb : b = false := by
    cases b
    · rfl
    · rw [n] at e; exact absurd e (by decide)
  subst hb
  rw [zs10_k h2] at a2
  exact ⟨zQf_t h1 (zCfr_f df hc h27), false, _, rfl, h7 false (zP10 X) [] (zTX_s ⟨false, zP10 X, w, m, L, a2, by rw [if_pos rfl]; exact ⟨rfl, rfl⟩⟩), fun z => absurd z (by decide)⟩
/-- a clause more -/
theorem zGt_c {f k c : Nat} {x v : Int32} {M Y Z X : pvM} (h : zGt f k M Y) (hc : c = 10 * f + k) (h27 : (100 * f : Int) ≤ (Y.1 124 27).toInt) (d : zQC c (some (pvI x)) Y Z) (n : ¬ x = 0) (df : zCfr c Y Z) (hz : (Z.1 124 27).toInt ≤ 100 * f + 100) (e : X = pvu Z 133 f v) : zQf f M X ∧ (X.1 124 16 = M.1 124 16 ∧ ∀ i : Nat, X.1 132 i = M.1 132 i) ∧ (X.1 124 17).toInt ≤ (X.1 124 16).toInt ∧ zP10 X = zP10 Z ∧ ∃ (S : List (Nat × Int32 × List Int32)) (w : Nat) (m : Int32) (L : List Int32), S.length = k ∧ zHb X f (S ++ [(w, m, L)]) ∧ (∀ (i : Nat) (x : Nat × Int32 × List Int32), (S ++ [(w, m, L)])[i]? = some x → x.1 < 2 → (X.1 137 (10 * f + i)).toInt ≤ (X.1 124 27).toInt) ∧ zCl (zs10 M) (zP10 Y) true (zP10 X) w m L ∧ ∀ (b : Bool) (q' : Nat) (S' : List (Nat × Int32 × List Int32)), zTX (zs10 M) (9 - k) (zP10 Y) b q' S' → zTX (zs10 M) 9 0 b q' (S ++ S') := by
  obtain ⟨h1, h2, h3, S, h4, h5, h6, h7⟩ := h
  obtain ⟨a1, b, w, m, L, ee, a2, a3⟩ := d
  have ee : x = bif b then 1 else 0 := Sum.inl.inj (Option.some.inj ee)
  have hb : b = true := by
    cases b
    · exact absurd ee n
    · rfl
  subst hb
  obtain ⟨c1, c2, c3, c4, c5⟩ := a3 rfl
  rw [zs10_k h2] at a2
  have g : ∀ a b, a ≠ 133 → X.1 a b = Z.1 a b := fun a b z => pvu_n e a b (Or.inl z)
  have p : zP10 X = zP10 Z := by unfold zP10; rw [g 124 17 (by decide)]
  have f1 := zCfr_f df hc h27
  obtain ⟨⟨⟨g1, g2⟩, g3⟩, g4, g5⟩ := df
  have f2 : zQf f Z X := ⟨fun i _ => ⟨g _ _ (by decide), g _ _ (by decide), g _ _ (by decide), g _ _ (by decide)⟩, fun i _ => g _ _ (by decide), fun i z => pvu_n e 133 i (Or.inr z)⟩
  have t0 := ztn (Y.1 124 27) (by omega)
  have t1 := ztn (Z.1 124 27) (by omega)
  have xs : Z.1 124 16 = M.1 124 16 := a1.1.trans h2.1
  have hcl : c - 10 * f = k := by omega
  refine ⟨zQf_t (zQf_t h1 f1) f2, ⟨(g 124 16 (by decide)).trans xs, fun i => (g 132 i (by decide)).trans ((a1.2.1 i).trans (h2.2 i))⟩, by rw [g 124 17 (by decide), g 124 16 (by decide)]; exact a1.2.2 h3, p, S, w, m, L, h4, fun i y ey => ?_, fun i y ey hy => ?_, by rw [p]; exact a2, h7⟩
  · rw [g 134 _ (by decide), g 135 _ (by decide), g 136 _ (by decide), g 137 _ (by decide)]
    by_cases hi : i < S.length
    · rw [List.getElem?_append_left hi] at ey
      have ne : 10 * f + i ≠ c := by omega
      obtain ⟨b1, b2, b3⟩ := h5 i y ey
      rw [g3 _ ne, g4 _ ne, (g1 _ ne).1, (g1 _ ne).2]
      refine ⟨b1, b2, fun z => ?_⟩
      have l := h6 i y ey z
      rw [zsl10_c (M := Y) (fun j hj => (g 138 j (by decide)).trans (g2 j (by
        have : (Int32.toNatClampNeg (Y.1 137 (10 * f + i)) : Int) ≤ (Y.1 124 27).toInt := by
          show (((Y.1 137 (10 * f + i)).toInt.toNat : Nat) : Int) ≤ _
          omega
        omega)))]
      exact b3 z
    · rw [List.getElem?_append_right (by omega)] at ey
      have hi2 : i = k := by
        have : i - S.length < 1 := by
          rw [← List.length_singleton (a := ((w, m, L) : Nat × Int32 × List Int32))]
          exact (List.getElem?_eq_some_iff.mp ey).1
        omega
      subst hi2
      rw [h4, Nat.sub_self] at ey
      have hx : (w, m, L) = y := Option.some.inj ey
      subst hx
      rw [← hc]
      have w4 : w < 4 := by
        unfold zCl at a2
        split at a2
        · exact absurd a2.1 (by decide)
        · next w' l eq =>
          split at a2
          · exact absurd a2.1 (by decide)
          · split at a2
            · exact absurd a2.1 (by decide)
            · split at a2
              · rw [a2.2.2.1]; exact zhw_4 eq
              · split at a2
                · rw [a2.2.1]; exact zhw_4 eq
                · exact absurd a2.1 (by decide)
      refine ⟨⟨w4, c1⟩, c2, fun z => ?_⟩
      obtain ⟨d1, d2⟩ := c4 z
      rw [d1, d2]
      have e6 : Int32.toNatClampNeg (Z.1 124 27) = Int32.toNatClampNeg (Y.1 124 27) + L.length := by omega
      rw [e6, zsl10_L (fun j hj => (g 138 _ (by decide)).trans (c5 j hj))]
      exact ⟨rfl, by omega, by omega⟩
  · rw [g 137 _ (by decide), g 124 27 (by decide)]
    by_cases hi : i < S.length
    · rw [List.getElem?_append_left hi] at ey
      rw [(g1 _ (by omega)).2]
      have := h6 i y ey hy
      omega
    · rw [List.getElem?_append_right (by omega)] at ey
      have hi2 : i = k := by
        have : i - S.length < 1 := by
          rw [← List.length_singleton (a := ((w, m, L) : Nat × Int32 × List Int32))]
          exact (List.getElem?_eq_some_iff.mp ey).1
        omega
      subst hi2
      rw [h4, Nat.sub_self] at ey
      have hx : (w, m, L) = y := Option.some.inj ey
      subst hx
      rw [← hc, (c4 hy).2]
      exact Int.le_refl _
theorem zs10_1 {M : pvM} (hok : pvOk M) (h : (M.1 124 17).toInt ≤ (M.1 124 16).toInt) : (zs10 M (zP10 M) = -1 ↔ M.1 124 17 = M.1 124 16) := by
  have r := pvok_r hok 124 17 (lo := 0) (hi := 100) rfl
  have e := ztn _ r.1
  unfold zs10 zP10
  by_cases c : (M.1 124 17).toInt < (M.1 124 16).toInt
  · rw [if_pos (by omega)]
    constructor
    · intro z
      have rt := pvok_r hok 132 (Int32.toNatClampNeg (M.1 124 17)) (lo := 0) (hi := 127) rfl
      rw [z] at rt
      exact absurd rt.1 (by decide)
    · intro z
      rw [z] at c
      omega
  · rw [if_neg (by omega)]
    exact ⟨fun _ => (zi_eq _ _).mpr (by omega), fun _ => rfl⟩
theorem zQX_2 {f k c : Nat} {x v : Int32} {M Y Z X : pvM} (hox : pvOk X) (h : zGt f k M Y) (hc : c = 10 * f + k) (h27 : (100 * f : Int) ≤ (Y.1 124 27).toInt) (d : zQC c (some (pvI x)) Y Z) (n : ¬ x = 0) (df : zCfr c Y Z) (hz : (Z.1 124 27).toInt ≤ 100 * f + 100) (e : X = pvu Z 133 f v) (hv : v.toInt = (k : Int) + 1) (ha : X.1 124 17 = X.1 124 16) : zQX f (some (pvI 1)) M X := by
  obtain ⟨h1, h2, h3, h4, S, w, m, L, h5, h6, h6b, h7, h8⟩ := zGt_c h hc h27 d n df hz e
  have s := (zs10_1 hox h3).mpr ha
  rw [zs10_k h2] at s
  refine ⟨h1, true, _, rfl, h8 true (zP10 X) [(w, m, L)] (zTX_s ⟨true, zP10 X, w, m, L, h7, by rw [if_neg (by decide), if_pos s]; exact ⟨rfl, rfl, rfl⟩⟩), fun _ => ⟨?_, h6⟩⟩
  rw [pvu_s e, hv, List.length_append, h5]
  rfl
theorem zQX_3 {f k c : Nat} {x v : Int32} {M Y Z X : pvM} (hox : pvOk X) (h : zGt f k M Y) (hc : c = 10 * f + k) (h27 : (100 * f : Int) ≤ (Y.1 124 27).toInt) (d : zQC c (some (pvI x)) Y Z) (n : ¬ x = 0) (df : zCfr c Y Z) (hz : (Z.1 124 27).toInt ≤ 100 * f + 100) (e : X = pvu Z 133 f v) (ha : ¬ X.1 124 17 = X.1 124 16) (hk : k = 9) : zQX f (some (pvI 0)) M X := by
  obtain ⟨h1, h2, h3, h4, S, w, m, L, h5, h6, h6b, h7, h8⟩ := zGt_c h hc h27 d n df hz e
  have s : ¬ zs10 M (zP10 X) = -1 := fun z => ha ((zs10_1 hox h3).mp (by rw [zs10_k h2]; exact z))
  subst hk
  exact ⟨h1, false, _, rfl, h8 false (zP10 X) [] (zTX_s ⟨true, zP10 X, w, m, L, h7, by rw [if_neg (by decide), if_neg s, if_neg (fun z => absurd z.1 (by decide))]; exact ⟨rfl, rfl⟩⟩), fun z => absurd z (by decide)⟩
theorem zQX_4 {f k c : Nat} {x v y : Int32} {M Y Z W X : pvM} (how : pvOk W) (h : zGt f k M Y) (hc : c = 10 * f + k) (h27 : (100 * f : Int) ≤ (Y.1 124 27).toInt) (d : zQC c (some (pvI x)) Y Z) (n : ¬ x = 0) (df : zCfr c Y Z) (hz : (Z.1 124 27).toInt ≤ 100 * f + 100) (e : W = pvu Z 133 f v) (ha : ¬ W.1 124 17 = W.1 124 16) (hk : k < 9) (d2 : zQb (zTsg 59) (some (pvI y)) W X) : (y = 0 → zQX f (some (pvI 0)) M X) ∧ (¬ y = 0 → zGt f (k + 1) M X) := by
  obtain ⟨h1, h2, h3, h4, S, w, m, L, h5, h6, h6b, h7, h8⟩ := zGt_c h hc h27 d n df hz e
  have s : ¬ zs10 M (zP10 W) = -1 := fun z => ha ((zs10_1 how h3).mp (by rw [zs10_k h2]; exact z))
  have fr : zKr W X → zQf f W X := fun k => ⟨fun i _ => ⟨k _ _ (by omega), k _ _ (by omega), k _ _ (by omega), k _ _ (by omega)⟩, fun i _ => k _ _ (by omega), fun i _ => k _ _ (by omega)⟩
  obtain ⟨g, hg⟩ : ∃ g, 9 - k = g + 1 := ⟨8 - k, by omega⟩
  refine ⟨fun u => ?_, fun u => ?_⟩
  · obtain ⟨b1, b2, b3⟩ := zQb_n d2 u
    obtain ⟨f1, f2⟩ := zTsg_n b3
    rw [zs10_k h2] at f1
    refine ⟨zQf_t h1 (fr b1), false, _, rfl, h8 false (zP10 X) [] (zTX_s ⟨true, zP10 W, w, m, L, h7, ?_⟩), fun z => absurd z (by decide)⟩
    rw [if_neg (by decide), if_neg s, if_neg (fun z => f1 z.2)]
    exact ⟨rfl, f2⟩
  · obtain ⟨b1, b2, b3⟩ := zQb_y d2 u
    obtain ⟨f1, f2⟩ := zTsg_y b3
    rw [zs10_k h2] at f1
    refine ⟨zQf_t h1 (fr b1), ⟨b2.1.trans h2.1, fun i => (b2.2.1 i).trans (h2.2 i)⟩, b2.2.2 h3, S ++ [(w, m, L)], by rw [List.length_append, h5]; rfl, zHb_k h6 (fun i _ => ⟨b1 _ _ (by omega), b1 _ _ (by omega), b1 _ _ (by omega), b1 _ _ (by omega)⟩) (fun i j x _ _ _ => b1 _ _ (by omega)), fun i x ex hx => by rw [b1 137 _ (by omega), b1 124 27 (by decide)]; exact h6b i x ex hx, fun b q' S' t => ?_⟩
    rw [List.append_assoc]
    refine h8 b q' _ ?_
    rw [f2, show 9 - (k + 1) = g by omega] at t
    rw [hg]
    refine ⟨true, zP10 W, w, m, L, h7, ?_⟩
    rw [if_neg (by decide), if_neg s, if_pos ⟨rfl, f1⟩]
    exact ⟨S', t, rfl⟩
