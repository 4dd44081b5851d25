/-! the class's reader, by signs -/
def zs9 (M : pvM) (p : Nat) : Int32 := if (p : Int) < (M.1 6 1).toInt then M.1 7 p else -1
def zP9 (M : pvM) : Nat := Int32.toNatClampNeg (M.1 6 2)
def zRq (M : pvM) : Prop := (0 ≤ (M.1 6 2).toInt ∧ (M.1 6 2).toInt ≤ 100) ∧ M.1 6 3 = zs9 M (zP9 M)
theorem zs9_k {M X : pvM} (h1 : X.1 6 1 = M.1 6 1) (h7 : ∀ i : Nat, X.1 7 i = M.1 7 i) : zs9 X = zs9 M := by
  funext p
  unfold zs9
  rw [h1, h7]
/-- all but the reader's place and sign stays -/
def zKh (M X : pvM) : Prop := X.1 6 1 = M.1 6 1 ∧ X.1 6 4 = M.1 6 4 ∧ ∀ a b : Nat, 7 ≤ a → X.1 a b = M.1 a b
theorem zKh_r (M : pvM) : zKh M M := ⟨rfl, rfl, fun _ _ _ => rfl⟩
theorem zKh_t {M Y X : pvM} (h : zKh M Y) (k : zKh Y X) : zKh M X := ⟨k.1.trans h.1, k.2.1.trans h.2.1, fun a b z => (k.2.2 a b z).trans (h.2.2 a b z)⟩
theorem zKh_s {M X : pvM} (h : zKh M X) : zs9 X = zs9 M := zs9_k h.1 (fun i => h.2.2 7 i (Nat.le_refl _))
theorem zKh_u {M X : pvM} {k : Nat} {v : Int32} (e : X = pvu M 6 k v) (h1 : 1 ≠ k) (h4 : 4 ≠ k) : zKh M X := ⟨pvu_n e 6 1 (Or.inr h1), pvu_n e 6 4 (Or.inr h4), fun a b z => pvu_n e a b (Or.inl (by omega))⟩
def zlow (L : List (Nat × Nat × Nat)) : Bool := L.all fun a => Nat.beq a.1 0 && Nat.ble a.2.1 6
theorem zlow_p {L : List (Nat × Nat × Nat)} (h : zlow L = true) {a : Nat} (ha : 7 ≤ a) (b : Nat) : pvfp L a b = false := by
  unfold pvfp
  rw [List.any_eq_false]
  intro x hx hb
  unfold zlow at h
  rw [List.all_eq_true] at h
  have h1 := h x hx
  rw [Bool.and_eq_true] at h1
  unfold pvfa at hb
  rw [Bool.and_eq_true, h1.1, cond_true] at hb
  have h2 := Nat.eq_of_beq_eq_true hb.1
  have h3 := Nat.le_of_ble_eq_true h1.2
  omega
theorem zKh_f {L : List (Nat × Nat × Nat)} {M X : pvM} (hf : pvFr (pvfp L) M X) (hl : zlow L = true) (h1 : pvfp L 6 1 = false) (h4 : pvfp L 6 4 = false) : zKh M X := ⟨hf 6 1 h1, hf 6 4 h4, fun a b z => hf a b (zlow_p hl z b)⟩
theorem zRq_k {M X : pvM} (h : zRq M) (h1 : X.1 6 1 = M.1 6 1) (h2 : X.1 6 2 = M.1 6 2) (h3 : X.1 6 3 = M.1 6 3) (h7 : ∀ i : Nat, X.1 7 i = M.1 7 i) : zRq X := by
  unfold zRq zP9
  rw [zs9_k h1 h7, h2, h3]
  exact h
def zGo (M X : pvM) : Prop := zRq X ∧ X.1 6 2 = M.1 6 2 + 1 ∧ zKh M X
theorem zGo_e {M Y X : pvM} (hr : (-1) ≤ (M.1 6 2).toInt ∧ (M.1 6 2).toInt ≤ 99) (e1 : Y = pvu M 6 2 (M.1 6 2 + 1)) (c : Y.1 6 1 ≤ Y.1 6 2) (e2 : X = pvu Y 6 3 (-1)) : zGo M X := by
  have u1 : (1 : Int32).toInt = 1 := by decide
  have a1 : Y.1 6 2 = M.1 6 2 + 1 := pvu_s e1
  have a2 : X.1 6 2 = Y.1 6 2 := pvu_n e2 6 2 (Or.inr (by decide))
  have a3 : X.1 6 1 = Y.1 6 1 := pvu_n e2 6 1 (Or.inr (by decide))
  have s1 : (M.1 6 2 + 1).toInt = (M.1 6 2).toInt + 1 := by rw [zadd _ _ (by rw [u1]; omega) (by rw [u1]; omega), u1]
  rw [zi_le, a1, s1] at c
  refine ⟨⟨by rw [a2, a1, s1]; omega, ?_⟩, by rw [a2, a1], zKh_t (zKh_u e1 (by decide) (by decide)) (zKh_u e2 (by decide) (by decide))⟩
  unfold zs9 zP9
  rw [if_neg]
  · exact pvu_s e2
  · rw [a2, a3, a1]
    show ¬ (((M.1 6 2 + 1).toInt.toNat : Nat) : Int) < _
    omega
theorem zGo_t {M Y X : pvM} (hr : (-1) ≤ (M.1 6 2).toInt ∧ (M.1 6 2).toInt ≤ 99) (e1 : Y = pvu M 6 2 (M.1 6 2 + 1)) (c : ¬ Y.1 6 1 ≤ Y.1 6 2) (e2 : X = pvu Y 6 3 (Y.1 7 (Int32.toNatClampNeg (Y.1 6 2)))) : zGo M X := by
  have u1 : (1 : Int32).toInt = 1 := by decide
  have a1 : Y.1 6 2 = M.1 6 2 + 1 := pvu_s e1
  have a2 : X.1 6 2 = Y.1 6 2 := pvu_n e2 6 2 (Or.inr (by decide))
  have a3 : X.1 6 1 = Y.1 6 1 := pvu_n e2 6 1 (Or.inr (by decide))
  have s1 : (M.1 6 2 + 1).toInt = (M.1 6 2).toInt + 1 := by rw [zadd _ _ (by rw [u1]; omega) (by rw [u1]; omega), u1]
  rw [zi_le, a1, s1] at c
  refine ⟨⟨by rw [a2, a1, s1]; omega, ?_⟩, by rw [a2, a1], zKh_t (zKh_u e1 (by decide) (by decide)) (zKh_u e2 (by decide) (by decide))⟩
  unfold zs9 zP9
  rw [if_pos]
  · rw [a2, pvu_n e2 7 _ (Or.inl (by decide))]
    exact pvu_s e2
  · rw [a2, a3, a1]
    show (((M.1 6 2 + 1).toInt.toNat : Nat) : Int) < _
    omega
theorem zGo_p {M X : pvM} (g : zGo M X) (h0 : 0 ≤ (M.1 6 2).toInt) (h1 : (M.1 6 2).toInt ≤ 100) : zP9 X = zP9 M + 1 := by
  have u1 : (1 : Int32).toInt = 1 := by decide
  unfold zP9
  rw [g.2.1]
  show (M.1 6 2 + 1).toInt.toNat = (M.1 6 2).toInt.toNat + 1
  rw [zadd _ _ (by rw [u1]; omega) (by rw [u1]; omega), u1]
  omega
/-- a reading that says yes or no -/
def zRb (T : (Nat → Int32) → Nat → Bool → Nat → Prop) (r : Option pvV) (M X : pvM) : Prop := zRq X ∧ zKh M X ∧ ∃ b : Bool, r = some (pvI (bif b then 1 else 0)) ∧ T (zs9 M) (zP9 M) b (zP9 X)
theorem zRb_y {T : (Nat → Int32) → Nat → Bool → Nat → Prop} {x : Int32} {M X : pvM} (h : zRb T (some (pvI x)) M X) (c : ¬ x = 0) : zRq X ∧ zKh M X ∧ T (zs9 M) (zP9 M) true (zP9 X) := by
  obtain ⟨a, b, t, e, k⟩ := h
  have e : x = bif t then 1 else 0 := Sum.inl.inj (Option.some.inj e)
  cases t
  · exact absurd e c
  · exact ⟨a, b, k⟩
theorem zRb_n {T : (Nat → Int32) → Nat → Bool → Nat → Prop} {x : Int32} {M X : pvM} (h : zRb T (some (pvI x)) M X) (c : x = 0) : zRq X ∧ zKh M X ∧ T (zs9 M) (zP9 M) false (zP9 X) := by
  obtain ⟨a, b, t, e, k⟩ := h
  have e : x = bif t then 1 else 0 := Sum.inl.inj (Option.some.inj e)
  cases t
  · exact ⟨a, b, k⟩
  · rw [c] at e
    exact absurd e (by decide)
def zTsg (c : Int32) (σ : Nat → Int32) (p : Nat) (b : Bool) (q : Nat) : Prop := if σ p = c then b = true ∧ q = p + 1 else b = false ∧ q = p
theorem zTsg_y {c : Int32} {σ : Nat → Int32} {p q : Nat} (h : zTsg c σ p true q) : σ p = c ∧ q = p + 1 := by
  unfold zTsg at h
  split at h
  · next e => exact ⟨e, h.2⟩
  · exact absurd h.1 (by decide)
theorem zTsg_n {c : Int32} {σ : Nat → Int32} {p q : Nat} (h : zTsg c σ p false q) : ¬ σ p = c ∧ q = p := by
  unfold zTsg at h
  split at h
  · exact absurd h.1 (by decide)
  · next e => exact ⟨e, h.2⟩
theorem zRs_y {n1 : Int32} {M X : pvM} (hz : zRq M) (c : M.1 6 3 = n1) (g : zGo M X) : zRb (zTsg n1) (some (pvI 1)) M X := by
  refine ⟨g.1, g.2.2, true, rfl, ?_⟩
  unfold zTsg
  rw [if_pos (hz.2.symm.trans c)]
  exact ⟨rfl, zGo_p g hz.1.1 hz.1.2⟩
theorem zRs_n {n1 : Int32} {M : pvM} (hz : zRq M) (c : ¬ M.1 6 3 = n1) : zRb (zTsg n1) (some (pvI 0)) M M := by
  refine ⟨hz, zKh_r M, false, rfl, ?_⟩
  unfold zTsg
  rw [if_neg (fun e => c (hz.2.trans e))]
  exact ⟨rfl, rfl⟩
/-- a word -/
def zTw (l : List Int32) (σ : Nat → Int32) (p : Nat) (b : Bool) (q : Nat) : Prop := zwd σ l p = (b, q)
def zLw (l : List Int32) (i : Nat) (M X : pvM) : Prop := zRq X ∧ zKh M X ∧ zwd (zs9 M) l (zP9 M) = zwd (zs9 M) (l.drop i) (zP9 X)
theorem zLw_0 {l : List Int32} {M : pvM} (hz : zRq M) : zLw l (Int32.toNatClampNeg 0) M M := ⟨hz, zKh_r M, rfl⟩
theorem zLw_s {l : List Int32} {i : Nat} {x : Int32} {M Y X : pvM} (h : zLw l i M Y) (hi : i < l.length) (d : zRb (zTsg (l.getD i 0)) (some (pvI x)) Y X) (c : ¬ x = 0) : zLw l (i + 1) M X := by
  obtain ⟨a, b, e⟩ := zRb_y d c
  obtain ⟨e1, e2⟩ := zTsg_y e
  refine ⟨a, zKh_t h.2.1 b, ?_⟩
  rw [h.2.2, List.drop_eq_getElem_cons hi, e2]
  show (if _ = _ then _ else _) = _
  rw [if_pos]
  rw [← zKh_s h.2.1, e1, List.getD_eq_getElem?_getD, List.getElem?_eq_getElem hi]
  rfl
theorem zLw_n {l : List Int32} {i : Nat} {x : Int32} {M Y X : pvM} (h : zLw l i M Y) (hi : i < l.length) (d : zRb (zTsg (l.getD i 0)) (some (pvI x)) Y X) (c : x = 0) : zRb (zTw l) (some (pvI 0)) M X := by
  obtain ⟨a, b, e⟩ := zRb_n d c
  obtain ⟨e1, e2⟩ := zTsg_n e
  refine ⟨a, zKh_t h.2.1 b, false, rfl, ?_⟩
  unfold zTw
  rw [h.2.2, List.drop_eq_getElem_cons hi, e2]
  show (if _ = _ then _ else _) = _
  rw [if_neg]
  rw [← zKh_s h.2.1]
  rw [List.getD_eq_getElem?_getD, List.getElem?_eq_getElem hi] at e1
  exact e1
theorem zLw_e {l : List Int32} {i : Nat} {M X : pvM} (h : zLw l i M X) (hi : l.length ≤ i) : zRb (zTw l) (some (pvI 1)) M X := by
  refine ⟨h.1, h.2.1, true, rfl, ?_⟩
  unfold zTw
  rw [h.2.2, List.drop_eq_nil_of_le hi]
  rfl
theorem zLw_t {l : List Int32} {n n' : Nat} {M X : pvM} (e : n' = n) (h : zLw l n M X) : zLw l n' M X := e ▸ h
theorem zlen {q : Nat} (h : 1010 ≤ q ∧ q < 1017) : zsl.getD (q - 1010) 0 = (zsb.getD (q - 1010) []).length ∧ zsl.getD (q - 1010) 0 ≤ 6 := by
  obtain ⟨k, rfl⟩ : ∃ k, q = 1010 + k := ⟨q - 1010, by omega⟩
  have hk : k < 7 := by omega
  rw [Nat.add_sub_cancel_left]
  match k, hk with
  | 0, _ => decide
  | 1, _ => decide
  | 2, _ => decide
  | 3, _ => decide
  | 4, _ => decide
  | 5, _ => decide
  | 6, _ => decide
  | k + 7, z => exact absurd z (by omega)
theorem zLen_lt {q : Nat} {i : Int32} (h : 1010 ≤ q ∧ q < 1017) (h0 : 0 ≤ i.toInt) (c : ¬ nI (zsl.getD (q - 1010) 0) ≤ i) : Int32.toNatClampNeg i < (zsb.getD (q - 1010) []).length := by
  obtain ⟨a, b⟩ := zlen h
  rw [zi_le, nI_toInt (by omega)] at c
  rw [← a]
  show i.toInt.toNat < _
  omega
theorem zLen_ge {q : Nat} {i : Int32} (h : 1010 ≤ q ∧ q < 1017) (c : nI (zsl.getD (q - 1010) 0) ≤ i) : (zsb.getD (q - 1010) []).length ≤ Int32.toNatClampNeg i := by
  obtain ⟨a, b⟩ := zlen h
  rw [zi_le, nI_toInt (by omega)] at c
  rw [← a]
  show _ ≤ i.toInt.toNat
  omega
/-- one of the signs -/
def zRo (l : List Int32) (r : Option pvV) (M X : pvM) : Prop := zRq X ∧ zKh M X ∧ ∃ x : Int32, r = some (pvI x) ∧ x = (if zs9 M (zP9 M) = -1 then -1 else pvixF (zs9 M (zP9 M)) l 0) ∧ zP9 X = (if x.toInt < 0 then zP9 M else zP9 M + 1)
theorem zRo_e {l : List Int32} {M : pvM} (hz : zRq M) (c : M.1 6 3 = -1) : zRo l (some (pvI (-1))) M M := by
  refine ⟨hz, zKh_r M, -1, rfl, ?_, ?_⟩
  · rw [if_pos (hz.2.symm.trans c)]
  · rw [if_pos (by decide)]
theorem zRo_n {l : List Int32} {M : pvM} {v : Int32} (hz : zRq M) (c : ¬ M.1 6 3 = -1) (hv : v = M.1 6 3) (n : (pvixF v l 0).toInt < 0) : zRo l (some (pvI (pvixF v l 0))) M M := by
  subst hv
  refine ⟨hz, zKh_r M, _, rfl, ?_, ?_⟩
  · rw [if_neg (fun e => c (hz.2.trans e)), hz.2]
  · rw [if_pos n]
theorem zRo_y {l : List Int32} {M X : pvM} {v : Int32} (hz : zRq M) (c : ¬ M.1 6 3 = -1) (hv : v = M.1 6 3) (n : ¬ (pvixF v l 0).toInt < 0) (g : zGo M X) : zRo l (some (pvI (pvixF v l 0))) M X := by
  subst hv
  refine ⟨g.1, g.2.2, _, rfl, ?_, ?_⟩
  · rw [if_neg (fun e => c (hz.2.trans e)), hz.2]
  · rw [if_neg n]
    exact zGo_p g hz.1.1 hz.1.2
/-- a number -/
def zRn (r : Option pvV) (M X : pvM) : Prop := zRq X ∧ zKh M X ∧ zP9 X = (znu (zs9 M) (zP9 M)).2.1 ∧ ∃ x : Int32, r = some (pvI x) ∧ (if (znu (zs9 M) (zP9 M)).1 = true then x = (znu (zs9 M) (zP9 M)).2.2 ∧ 0 ≤ x.toInt else x.toInt < 0)
theorem zdig_y {c : Int32} (h1 : ¬ c < 48) (h2 : ¬ 57 < c) : zdig c = true := by
  have u1 : (48 : Int32).toInt = 48 := by decide
  have u2 : (57 : Int32).toInt = 57 := by decide
  rw [zi_lt, u1] at h1
  rw [zi_lt, u2] at h2
  unfold zdig
  rw [Bool.and_eq_true, decide_eq_true_eq, decide_eq_true_eq, zi_le, zi_le, u1, u2]
  omega
theorem zdig_n {c : Int32} (h : c < 48 ∨ 57 < c) : ¬ zdig c = true := by
  have u1 : (48 : Int32).toInt = 48 := by decide
  have u2 : (57 : Int32).toInt = 57 := by decide
  unfold zdig
  rw [Bool.and_eq_true, decide_eq_true_eq, decide_eq_true_eq, zi_le, zi_le, u1, u2]
  rw [zi_lt, zi_lt, u1, u2] at h
  omega
theorem zdig_r {c : Int32} (h : zdig c = true) : 48 ≤ c.toInt ∧ c.toInt ≤ 57 := by
  have u1 : (48 : Int32).toInt = 48 := by decide
  have u2 : (57 : Int32).toInt = 57 := by decide
  unfold zdig at h
  rw [Bool.and_eq_true, decide_eq_true_eq, decide_eq_true_eq, zi_le, zi_le, u1, u2] at h
  exact h
theorem zRn_n {M : pvM} (hz : zRq M) (c : M.1 6 3 < 48 ∨ 57 < M.1 6 3) : zRn (some (pvI (-1))) M M := by
  have k : ¬ zdig (zs9 M (zP9 M)) = true := by rw [← hz.2]; exact zdig_n c
  refine ⟨hz, zKh_r M, ?_, -1, rfl, ?_⟩
  · unfold znu
    rw [if_neg k]
  · unfold znu
    rw [if_neg k, if_neg Bool.false_ne_true]
    decide
theorem zRn_1 {M Y : pvM} (hz : zRq M) (c1 : ¬ M.1 6 3 < 48) (c2 : ¬ 57 < M.1 6 3) (g : zGo M Y) (c : Y.1 6 3 < 48 ∨ 57 < Y.1 6 3) (h0 : 0 ≤ (M.1 6 3 - 48).toInt) : zRn (some (pvI (M.1 6 3 - 48))) M Y := by
  have k := zKh_s g.2.2
  have k1 : zdig (zs9 M (zP9 M)) = true := by rw [← hz.2]; exact zdig_y c1 c2
  have p1 := zGo_p g hz.1.1 hz.1.2
  have k2 : ¬ zdig (zs9 M (zP9 M + 1)) = true := by rw [← k, ← p1, ← g.1.2]; exact zdig_n c
  refine ⟨g.1, g.2.2, ?_, _, rfl, ?_⟩
  · unfold znu
    rw [if_pos k1, if_neg k2]
    exact p1
  · unfold znu
    rw [if_pos k1, if_neg k2, if_pos rfl]
    exact ⟨by rw [hz.2], h0⟩
theorem zRn_2 {M Y X : pvM} (hz : zRq M) (c1 : ¬ M.1 6 3 < 48) (c2 : ¬ 57 < M.1 6 3) (g : zGo M Y) (d1 : ¬ Y.1 6 3 < 48) (d2 : ¬ 57 < Y.1 6 3) (g2 : zGo Y X) (h0 : 0 ≤ (((10 * (M.1 6 3 - 48)) + Y.1 6 3) - 48).toInt) : zRn (some (pvI (((10 * (M.1 6 3 - 48)) + Y.1 6 3) - 48))) M X := by
  have k := zKh_s g.2.2
  have k1 : zdig (zs9 M (zP9 M)) = true := by rw [← hz.2]; exact zdig_y c1 c2
  have p1 := zGo_p g hz.1.1 hz.1.2
  have k3 : zdig (zs9 M (zP9 M + 1)) = true := by rw [← k, ← p1, ← g.1.2]; exact zdig_y d1 d2
  have p2 := zGo_p g2 g.1.1.1 g.1.1.2
  refine ⟨g2.1, zKh_t g.2.2 g2.2.2, ?_, _, rfl, ?_⟩
  · unfold znu
    rw [if_pos k1, if_pos k3]
    show zP9 X = zP9 M + 2
    rw [p2, p1]
  · unfold znu
    rw [if_pos k1, if_pos k3, if_pos rfl]
    refine ⟨?_, h0⟩
    rw [hz.2, g.1.2, k, p1]
theorem zRn_y {x : Int32} {M X : pvM} (h : zRn (some (pvI x)) M X) (c : ¬ x.toInt < 0) : zRq X ∧ zKh M X ∧ (znu (zs9 M) (zP9 M)).1 = true ∧ zP9 X = (znu (zs9 M) (zP9 M)).2.1 ∧ x = (znu (zs9 M) (zP9 M)).2.2 := by
  obtain ⟨a, b, p, y, e, k⟩ := h
  have e : x = y := Sum.inl.inj (Option.some.inj e)
  subst e
  by_cases t : (znu (zs9 M) (zP9 M)).1 = true
  · rw [if_pos t] at k
    exact ⟨a, b, t, p, k.1⟩
  · rw [if_neg t] at k
    exact absurd k c
theorem zRn_no {x : Int32} {M X : pvM} (h : zRn (some (pvI x)) M X) (c : x.toInt < 0) : zRq X ∧ zKh M X ∧ (znu (zs9 M) (zP9 M)).1 = false ∧ zP9 X = (znu (zs9 M) (zP9 M)).2.1 := by
  obtain ⟨a, b, p, y, e, k⟩ := h
  have e : x = y := Sum.inl.inj (Option.some.inj e)
  subst e
  by_cases t : (znu (zs9 M) (zP9 M)).1 = true
  · rw [if_pos t] at k
    omega
  · exact ⟨a, b, by simpa using t, p⟩
theorem znu_r {σ : Nat → Int32} {p : Nat} (h : (znu σ p).1 = true) : (0 ≤ (znu σ p).2.2.toInt ∧ (znu σ p).2.2.toInt ≤ 99) ∧ p + 1 ≤ (znu σ p).2.1 := by
  have u48 : (48 : Int32).toInt = 48 := by decide
  have u10 : (10 : Int32).toInt = 10 := by decide
  unfold znu at h ⊢
  by_cases c : zdig (σ p) = true
  · rw [if_pos c]
    have k := zdig_r c
    have e : (σ p - 48).toInt = (σ p).toInt - 48 := by rw [zsub _ _ (by rw [u48]; omega) (by rw [u48]; omega), u48]
    by_cases c2 : zdig (σ (p + 1)) = true
    · rw [if_pos c2]
      have k2 := zdig_r c2
      have e2 : (10 * (σ p - 48)).toInt = 10 * ((σ p).toInt - 48) := by rw [zmul _ _ (by rw [u10, e]; omega) (by rw [u10, e]; omega), u10, e]
      have e3 : (10 * (σ p - 48) + σ (p + 1)).toInt = 10 * ((σ p).toInt - 48) + (σ (p + 1)).toInt := by rw [zadd _ _ (by rw [e2]; omega) (by rw [e2]; omega), e2]
      have e4 : (10 * (σ p - 48) + σ (p + 1) - 48).toInt = 10 * ((σ p).toInt - 48) + (σ (p + 1)).toInt - 48 := by rw [zsub _ _ (by rw [e3, u48]; omega) (by rw [e3, u48]; omega), e3, u48]
      exact ⟨by show 0 ≤ (10 * (σ p - 48) + σ (p + 1) - 48).toInt ∧ _; rw [e4]; omega, by show p + 1 ≤ p + 2; omega⟩
    · rw [if_neg c2]
      exact ⟨by show 0 ≤ (σ p - 48).toInt ∧ _; rw [e]; omega, by show p + 1 ≤ p + 1; omega⟩
  · rw [if_neg c] at h
    exact absurd h Bool.false_ne_true
/-! an F, a T, an E: what the machine does meanwhile, and what the class lays -/
def zwt (w : List Int32) (c : Int32) : Prop := ¬ w.head? = some c
theorem zwt_c {w : List Int32} {a c : Int32} (h : ¬ a = c) : zwt (a :: w) c := fun z => h (Option.some.inj z)
theorem zopn_rep (w : List Int32) : ∀ k : Nat, zopn (List.replicate k 33 ++ w) = k + zopn w
  | 0 => (Nat.zero_add _).symm
  | k + 1 => by
    show (if (33 : Int32) = 33 ∨ (33 : Int32) = 40 then 1 else 0) + zopn (List.replicate k 33 ++ w) = _
    rw [if_pos (Or.inl rfl), zopn_rep w k]
    omega
theorem zwh_0 {w o : List Int32} (h : zwt w 33) : zwh w o = (w, o) := by
  cases w with
  | nil => rfl
  | cons a w => exact if_neg (fun z => h (by rw [z]; rfl))
theorem zwh_rep {w : List Int32} (h : zwt w 33) : ∀ (k : Nat) (o : List Int32), zwh (List.replicate k 33 ++ w) o = (w, o ++ List.replicate k (-33))
  | 0, o => by
    show zwh w o = (w, o ++ [])
    rw [zwh_0 h, List.append_nil]
  | k + 1, o => by
    show (if (33 : Int32) = 33 then zwh (List.replicate k 33 ++ w) (o ++ [-33]) else _) = _
    rw [if_pos rfl, zwh_rep h k, List.append_assoc]
    rfl
theorem zse_0 {s : Int32} {w o : List Int32} (h : zwt w 38) (h2 : s = 38 ∨ zwt w 124) : zse s w o = (w, o) := by
  cases w with
  | nil => rfl
  | cons a w =>
    refine if_neg (fun z => z.elim (fun e => h (by rw [e]; rfl)) (fun e => h2.elim (fun u => e.2 u) (fun u => u (by rw [e.1]; rfl))))
theorem zse_38 (s : Int32) (w o : List Int32) : zse s (38 :: w) o = zse s w (o ++ [-38]) := if_pos (Or.inl rfl)
theorem zse_124 (w o : List Int32) : zse 124 (124 :: w) o = zse 124 w (o ++ [-124]) := if_pos (Or.inr ⟨rfl, by decide⟩)
theorem zst1_W (σ : Nat → Int32) (w : List Int32) (p : Nat) (o : List Int32) : zst1 σ (0, w, p, o) = zsW σ w p o := rfl
theorem zst1_O (σ : Nat → Int32) (w : List Int32) (p : Nat) (o : List Int32) : zst1 σ (1, w, p, o) = zsO σ w p o := rfl
theorem zlf_r {c : Int32} (h : ¬ zlf c = -1) : (∃ l : Nat, l < 6 ∧ zlf c = nI l) ∧ ¬ (c = 33 ∨ c = 40) := by
  refine ⟨?_, fun z => z.elim (fun e => h (by rw [e]; decide)) (fun e => h (by rw [e]; decide))⟩
  unfold zlf at h ⊢
  by_cases k1 : c = 119
  · exact ⟨0, by decide, by rw [if_pos k1]; rfl⟩
  rw [if_neg k1] at h ⊢
  by_cases k2 : c = 107
  · exact ⟨1, by decide, by rw [if_pos k2]; rfl⟩
  rw [if_neg k2] at h ⊢
  by_cases k3 : c = 102
  · exact ⟨2, by decide, by rw [if_pos k3]; rfl⟩
  rw [if_neg k3] at h ⊢
  by_cases k4 : c = 114
  · exact ⟨3, by decide, by rw [if_pos k4]; rfl⟩
  rw [if_neg k4] at h ⊢
  by_cases k5 : c = 115
  · exact ⟨4, by decide, by rw [if_pos k5]; rfl⟩
  rw [if_neg k5] at h ⊢
  by_cases k6 : c = 116
  · exact ⟨5, by decide, by rw [if_pos k6]; rfl⟩
  rw [if_neg k6] at h
  exact absurd rfl h
theorem zsg_r {c : Int32} (h : zsg c = true) : ∃ s : Nat, s < 3 ∧ c - 60 = nI s := by
  have u1 : (60 : Int32).toInt = 60 := by decide
  have u2 : (62 : Int32).toInt = 62 := by decide
  unfold zsg at h
  rw [Bool.and_eq_true, decide_eq_true_eq, decide_eq_true_eq, zi_le, zi_le, u1, u2] at h
  have e : (c - 60).toInt = c.toInt - 60 := by rw [zsub _ _ (by rw [u1]; omega) (by rw [u1]; omega), u1]
  obtain ⟨s, hs, k⟩ := zpos (x := c - 60) (by rw [e]; omega)
  refine ⟨s, ?_, k⟩
  rw [k, nI_toInt (by omega)] at e
  omega
theorem znu_n {σ : Nat → Int32} {p : Nat} (h : (znu σ p).1 = true) : ∃ n : Nat, n < 100 ∧ (znu σ p).2.2 = nI n := by
  have r := (znu_r h).1
  obtain ⟨n, hn, k⟩ := zpos r.1
  refine ⟨n, ?_, k⟩
  rw [k, nI_toInt (by omega)] at r
  omega
theorem ztst_y {σ : Nat → Int32} {p q : Nat} (h : ztst σ p = (true, q)) : ¬ zlf (σ p) = -1 ∧ zsg (σ (p + 1)) = true ∧ (znu σ (p + 2)).1 = true ∧ q = (znu σ (p + 2)).2.1 := by
  unfold ztst at h
  split at h
  · next a =>
    split at h
    · next b => exact ⟨a, b, congrArg Prod.fst h, (congrArg Prod.snd h).symm⟩
    · exact absurd (congrArg Prod.fst h) (by simp)
  · exact absurd (congrArg Prod.fst h) (by simp)
theorem zk_sem {σ : Nat → Int32} {p q m : Nat} (h : ztst σ p = (true, q)) (h1 : 1 ≤ m) : zSem m [zk9 σ p] [zk10 σ p] ∧ p + 3 ≤ q := by
  obtain ⟨a, b, c, e⟩ := ztst_y h
  obtain ⟨⟨l, hl, el⟩, -⟩ := zlf_r a
  obtain ⟨s, hs, es⟩ := zsg_r b
  obtain ⟨n, hn, en⟩ := znu_n c
  have r := (znu_r c).2
  refine ⟨?_, by omega⟩
  unfold zk9 zk10
  rw [el, es, en]
  exact zSem_t hl hs hn h1
/-- so many ! are read -/
def zOn (d k : Nat) (σ : Nat → Int32) (p p' : Nat) : Prop := p' = p + k ∧ d + k ≤ 4 ∧ ∀ w o : List Int32, zopn w = d → zyR σ (0, w, p, o) (0, List.replicate k 33 ++ w, p', o)
theorem zOn_0 {d : Nat} {σ : Nat → Int32} {p : Nat} (h : d ≤ 4) : zOn d 0 σ p p := ⟨rfl, h, fun _ _ _ => zyR_r _ _⟩
theorem zOn_s {d k : Nat} {σ : Nat → Int32} {p p' : Nat} (h : zOn d k σ p p') (hk : d + k < 4) (c : σ p' = 33) : zOn d (k + 1) σ p (p' + 1) := by
  obtain ⟨h1, h2, h3⟩ := h
  refine ⟨by omega, by omega, fun w o hw => zyR_t (h3 w o hw) (zyR_1 ?_)⟩
  rw [zst1_W]
  unfold zsW
  rw [if_pos (Or.inl c), if_neg (by rw [zopn_rep, hw]; omega), c]
  rfl
def zTO (d : Nat) (σ : Nat → Int32) (p : Nat) (b : Bool) (q : Nat) (L : List Int32) : Prop :=
  if b = true then p < q ∧ p + L.length ≤ q ∧ ∃ L' : List Int32, zSem (1 + 2 * (4 - d)) L L' ∧ ∀ w o : List Int32, zopn w = d → zwt w 33 → zyR σ (0, w, p, o) (1, w, q, o ++ L')
  else ∀ w o : List Int32, zopn w = d → zwt w 33 → zyR σ (0, w, p, o) (3, [], q, [])
def zTT (d : Nat) (σ : Nat → Int32) (p : Nat) (b : Bool) (q : Nat) (L : List Int32) : Prop :=
  if b = true then p < q ∧ p + L.length ≤ q ∧ ¬ σ q = 38 ∧ ∃ L' : List Int32, zSem (2 + 2 * (4 - d)) L L' ∧ ∀ w o : List Int32, zopn w = d → zwt w 33 → zwt w 38 → ∃ w1 o1 : List Int32, zyR σ (0, w, p, o) (1, w1, q, o1) ∧ ∀ s : Int32, zse s w1 o1 = zse s w (o ++ L')
  else ∀ w o : List Int32, zopn w = d → zwt w 33 → zwt w 38 → zyR σ (0, w, p, o) (3, [], q, [])
def zTA (d : Nat) (σ : Nat → Int32) (p : Nat) (b : Bool) (q : Nat) (L : List Int32) : Prop :=
  if b = true then p < q ∧ p + L.length ≤ q ∧ ¬ σ q = 38 ∧ ¬ σ q = 124 ∧ ∃ L' : List Int32, zSem (3 + 2 * (4 - d)) L L' ∧ ∀ w o : List Int32, zopn w = d → zwt w 33 → zwt w 38 → zwt w 124 → ∃ w1 o1 : List Int32, zyR σ (0, w, p, o) (1, w1, q, o1) ∧ zse 124 w1 o1 = (w, o ++ L')
  else ∀ w o : List Int32, zopn w = d → zwt w 33 → zwt w 38 → zwt w 124 → zyR σ (0, w, p, o) (3, [], q, [])
theorem zodd_l (k : Nat) : (if k % 2 = 1 then [(-1 : Int32)] else []).length ≤ k := by
  split
  · next h => show 1 ≤ k; omega
  · exact Nat.zero_le _
theorem zO_t {d k : Nat} {σ : Nat → Int32} {p p' q : Nat} (h : zOn d k σ p p') (t : ztst σ p' = (true, q)) : zTO d σ p true q ([zk9 σ p'] ++ (if k % 2 = 1 then [-1] else [])) := by
  obtain ⟨h1, h2, h3⟩ := h
  obtain ⟨s1, s2⟩ := zk_sem t (show 1 ≤ 1 + 2 * (4 - d) by omega)
  have a := (zlf_r (ztst_y t).1).2
  have l := zodd_l k
  unfold zTO
  rw [if_pos rfl]
  refine ⟨by omega, ?_, [zk10 σ p'] ++ List.replicate k (-33), zSem_k s1 (by omega) k, fun w o hw ht => zyR_t (h3 w o hw) (zyR_1 ?_)⟩
  · rw [List.length_append]
    show p + (1 + _) ≤ q
    omega
  · rw [zst1_W]
    unfold zsW
    rw [if_neg a, t, if_pos rfl, zwh_rep ht, List.append_assoc]
theorem zO_f {d k : Nat} {σ : Nat → Int32} {p p' q : Nat} (h : zOn d k σ p p') (c : d + k < 4 → ¬ σ p' = 33 ∧ ¬ σ p' = 40) (t : ztst σ p' = (false, q)) (L : List Int32) : zTO d σ p false q L := by
  obtain ⟨h1, h2, h3⟩ := h
  unfold zTO
  rw [if_neg Bool.false_ne_true]
  refine fun w o hw ht => zyR_t (h3 w o hw) (zyR_1 ?_)
  rw [zst1_W]
  unfold zsW
  by_cases a : σ p' = 33 ∨ σ p' = 40
  · have e : zopn (List.replicate k 33 ++ w) = 4 := by
      rw [zopn_rep, hw]
      have : ¬ d + k < 4 := fun z => a.elim (c z).1 (c z).2
      omega
    rw [if_pos a, if_pos e]
    have z : zlf (σ p') = -1 := by rcases a with a | a <;> rw [a] <;> decide
    unfold ztst at t
    rw [if_neg (fun u => u z)] at t
    rw [(Prod.mk.inj t).2]
  · rw [if_neg a, t, if_neg Bool.false_ne_true]
/-- a parenthesis is open -/
def zOp (d k : Nat) (σ : Nat → Int32) (p p' : Nat) : Prop := p' = p + k + 1 ∧ d + k < 4 ∧ ∀ w o : List Int32, zopn w = d → zyR σ (0, w, p, o) (0, 40 :: (List.replicate k 33 ++ w), p', o)
theorem zOp_i {d k : Nat} {σ : Nat → Int32} {p p' : Nat} (h : zOn d k σ p p') (hk : d + k < 4) (c : σ p' = 40) : zOp d k σ p (p' + 1) := by
  obtain ⟨h1, h2, h3⟩ := h
  refine ⟨by omega, hk, fun w o hw => zyR_t (h3 w o hw) (zyR_1 ?_)⟩
  rw [zst1_W]
  unfold zsW
  rw [if_pos (Or.inr c), if_neg (by rw [zopn_rep, hw]; omega), c]
theorem zopn_38 {w : List Int32} {d : Nat} (h : zopn w = d) : zopn (38 :: w) = d := (Nat.zero_add _).trans h
theorem zopn_124 {w : List Int32} {d : Nat} (h : zopn w = d) : zopn (124 :: w) = d := (Nat.zero_add _).trans h
theorem zopn_40 (w : List Int32) : zopn (40 :: w) = 1 + zopn w := rfl
theorem zO_pf {d k n : Nat} {σ : Nat → Int32} {p p' q : Nat} {L : List Int32} (h : zOp d k σ p p') (hn : n = d + k + 1) (a : zTA n σ p' false q L) (L2 : List Int32) : zTO d σ p false q L2 := by
  obtain ⟨h1, h2, h3⟩ := h
  unfold zTA at a
  rw [if_neg Bool.false_ne_true] at a
  unfold zTO
  rw [if_neg Bool.false_ne_true]
  exact fun w o hw ht => zyR_t (h3 w o hw) (a _ o (by rw [zopn_40, zopn_rep]; omega) (zwt_c (by decide)) (zwt_c (by decide)) (zwt_c (by decide)))
theorem zO_pn {d k n : Nat} {σ : Nat → Int32} {p p' q : Nat} {L : List Int32} (h : zOp d k σ p p') (hn : n = d + k + 1) (a : zTA n σ p' true q L) (c : ¬ σ q = 41) (L2 : List Int32) : zTO d σ p false q L2 := by
  obtain ⟨h1, h2, h3⟩ := h
  unfold zTA at a
  rw [if_pos rfl] at a
  obtain ⟨a1, a2, a3, a4, L', a5, a6⟩ := a
  unfold zTO
  rw [if_neg Bool.false_ne_true]
  intro w o hw ht
  obtain ⟨w1, o1, b1, b2⟩ := a6 (40 :: (List.replicate k 33 ++ w)) o (by rw [zopn_40, zopn_rep]; omega) (zwt_c (by decide)) (zwt_c (by decide)) (zwt_c (by decide))
  refine zyR_t (h3 w o hw) (zyR_t b1 (zyR_1 ?_))
  rw [zst1_O]
  unfold zsO
  rw [if_neg (fun z => z.elim a3 a4), b2]
  exact if_neg c
theorem zO_py {d k n : Nat} {σ : Nat → Int32} {p p' q : Nat} {L : List Int32} (h : zOp d k σ p p') (hn : n = d + k + 1) (a : zTA n σ p' true q L) (c : σ q = 41) : zTO d σ p true (q + 1) (L ++ (if k % 2 = 1 then [-1] else [])) := by
  obtain ⟨h1, h2, h3⟩ := h
  unfold zTA at a
  rw [if_pos rfl] at a
  obtain ⟨a1, a2, a3, a4, L', a5, a6⟩ := a
  have l := zodd_l k
  unfold zTO
  rw [if_pos rfl]
  refine ⟨by omega, by rw [List.length_append]; omega, L' ++ List.replicate k (-33), zSem_k (zSem_m a5 (by omega)) (by omega) k, fun w o hw ht => ?_⟩
  obtain ⟨w1, o1, b1, b2⟩ := a6 (40 :: (List.replicate k 33 ++ w)) o (by rw [zopn_40, zopn_rep]; omega) (zwt_c (by decide)) (zwt_c (by decide)) (zwt_c (by decide))
  refine zyR_t (h3 w o hw) (zyR_t b1 (zyR_1 ?_))
  rw [zst1_O]
  unfold zsO
  rw [if_neg (fun z => z.elim a3 a4), b2]
  show (if σ q = 41 then _ else _) = _
  rw [if_pos c]
  show (1, (zwh (List.replicate k 33 ++ w) (o ++ L')).1, q + 1, (zwh (List.replicate k 33 ++ w) (o ++ L')).2) = _
  rw [zwh_rep ht, List.append_assoc]
/-- a T so far: so many of its F, and the & behind the last -/
def zLT (d n : Nat) (σ : Nat → Int32) (p p' : Nat) (L : List Int32) : Prop := (n = 0 ∧ p' = p ∧ L = []) ∨ (0 < n ∧ p + 2 * n ≤ p' ∧ p + L.length + 1 ≤ p' ∧ ∃ L' : List Int32, zSem (2 + 2 * (4 - d)) L L' ∧ ∀ w o : List Int32, zopn w = d → zwt w 33 → zwt w 38 → zyR σ (0, w, p, o) (0, 38 :: w, p', o ++ L'))
/-- .. and another F -/
def zLO (d n : Nat) (σ : Nat → Int32) (p q : Nat) (L : List Int32) : Prop := p + 2 * n + 1 ≤ q ∧ p + L.length ≤ q ∧ ∃ L' : List Int32, zSem (2 + 2 * (4 - d)) L L' ∧ ∀ w o : List Int32, zopn w = d → zwt w 33 → zwt w 38 → ∃ w1 o1 : List Int32, zyR σ (0, w, p, o) (1, w1, q, o1) ∧ ∀ s : Int32, zse s w1 o1 = zse s w (o ++ L')
theorem zLT_b {d n : Nat} {σ : Nat → Int32} {p p' : Nat} {L : List Int32} (h : zLT d n σ p p' L) : p + 2 * n ≤ p' ∧ p + L.length ≤ p' ∧ (0 < n → p + L.length + 1 ≤ p') := by
  rcases h with ⟨h1, h2, h3⟩ | ⟨h1, h2, h3, h4⟩
  · subst h1 h2 h3
    exact ⟨Nat.le_refl _, Nat.le_refl _, fun z => absurd z (by decide)⟩
  · exact ⟨h2, by omega, fun _ => h3⟩
theorem zT_f {d n : Nat} {σ : Nat → Int32} {p p' q : Nat} {L L1 : List Int32} (h : zLT d n σ p p' L) (a : zTO d σ p' false q L1) (L2 : List Int32) : zTT d σ p false q L2 := by
  unfold zTO at a
  rw [if_neg Bool.false_ne_true] at a
  unfold zTT
  rw [if_neg Bool.false_ne_true]
  intro w o hw ht h8
  rcases h with ⟨h1, h2, h3⟩ | ⟨h1, h2, h3, L', h4, h5⟩
  · rw [h2] at a
    exact a w o hw ht
  · exact zyR_t (h5 w o hw ht h8) (a (38 :: w) _ (zopn_38 hw) (zwt_c (by decide)))
theorem zT_o {d n : Nat} {σ : Nat → Int32} {p p' q : Nat} {L L1 : List Int32} (h : zLT d n σ p p' L) (a : zTO d σ p' true q L1) : zLO d n σ p q (if n = 0 then L1 else L ++ L1 ++ [-2]) := by
  unfold zTO at a
  rw [if_pos rfl] at a
  obtain ⟨a1, a2, L1', a3, a4⟩ := a
  rcases h with ⟨h1, h2, h3⟩ | ⟨h1, h2, h3, L', h4, h5⟩
  · rw [if_pos h1]
    subst h1 h2
    exact ⟨by omega, a2, L1', zSem_m a3 (by omega), fun w o hw ht h8 => ⟨w, _, a4 w o hw ht, fun s => rfl⟩⟩
  · rw [if_neg (by omega)]
    refine ⟨by omega, by rw [List.length_append, List.length_append]; show p + (L.length + L1.length + 1) ≤ q; omega, L' ++ L1' ++ [-38], zSem_a h4 a3 (Nat.le_refl _) (by omega) (by omega), fun w o hw ht h8 => ⟨38 :: w, _, zyR_t (h5 w o hw ht h8) (a4 (38 :: w) _ (zopn_38 hw) (zwt_c (by decide))), fun s => ?_⟩⟩
    rw [zse_38, List.append_assoc, List.append_assoc, List.append_assoc]
theorem zT_e {d n : Nat} {σ : Nat → Int32} {p q : Nat} {L : List Int32} (h : zLO d n σ p q L) (c : ¬ σ q = 38) : zTT d σ p true q L := by
  obtain ⟨h1, h2, h3⟩ := h
  unfold zTT
  rw [if_pos rfl]
  exact ⟨by omega, h2, c, h3⟩
theorem zT_s {d n : Nat} {σ : Nat → Int32} {p q : Nat} {L : List Int32} (h : zLO d n σ p q L) (c : σ q = 38) : zLT d (n + 1) σ p (q + 1) L := by
  obtain ⟨h1, h2, L', h3, h4⟩ := h
  refine Or.inr ⟨by omega, by omega, by omega, L', h3, fun w o hw ht h8 => ?_⟩
  obtain ⟨w1, o1, b1, b2⟩ := h4 w o hw ht h8
  refine zyR_t b1 (zyR_1 ?_)
  rw [zst1_O]
  unfold zsO
  rw [if_pos (Or.inl c), c, b2, zse_0 h8 (Or.inl rfl)]
/-- an E so far -/
def zMA (d n : Nat) (σ : Nat → Int32) (p p' : Nat) (L : List Int32) : Prop := (n = 0 ∧ p' = p ∧ L = []) ∨ (0 < n ∧ p + 2 * n ≤ p' ∧ p + L.length + 1 ≤ p' ∧ ∃ L' : List Int32, zSem (3 + 2 * (4 - d)) L L' ∧ ∀ w o : List Int32, zopn w = d → zwt w 33 → zwt w 38 → zwt w 124 → zyR σ (0, w, p, o) (0, 124 :: w, p', o ++ L'))
def zMB (d n : Nat) (σ : Nat → Int32) (p q : Nat) (L : List Int32) : Prop := p + 2 * n + 1 ≤ q ∧ p + L.length ≤ q ∧ ¬ σ q = 38 ∧ ∃ L' : List Int32, zSem (3 + 2 * (4 - d)) L L' ∧ ∀ w o : List Int32, zopn w = d → zwt w 33 → zwt w 38 → zwt w 124 → ∃ w1 o1 : List Int32, zyR σ (0, w, p, o) (1, w1, q, o1) ∧ zse 124 w1 o1 = (w, o ++ L')
theorem zMA_b {d n : Nat} {σ : Nat → Int32} {p p' : Nat} {L : List Int32} (h : zMA d n σ p p' L) : p + 2 * n ≤ p' ∧ p + L.length ≤ p' ∧ (0 < n → p + L.length + 1 ≤ p') := by
  rcases h with ⟨h1, h2, h3⟩ | ⟨h1, h2, h3, h4⟩
  · subst h1 h2 h3
    exact ⟨Nat.le_refl _, Nat.le_refl _, fun z => absurd z (by decide)⟩
  · exact ⟨h2, by omega, fun _ => h3⟩
theorem zA_f {d n : Nat} {σ : Nat → Int32} {p p' q : Nat} {L L1 : List Int32} (h : zMA d n σ p p' L) (a : zTT d σ p' false q L1) (L2 : List Int32) : zTA d σ p false q L2 := by
  unfold zTT at a
  rw [if_neg Bool.false_ne_true] at a
  unfold zTA
  rw [if_neg Bool.false_ne_true]
  intro w o hw ht h8 h4
  rcases h with ⟨h1, h2, h3⟩ | ⟨h1, h2, h3, L', h5, h6⟩
  · rw [h2] at a
    exact a w o hw ht h8
  · exact zyR_t (h6 w o hw ht h8 h4) (a (124 :: w) _ (zopn_124 hw) (zwt_c (by decide)) (zwt_c (by decide)))
theorem zA_o {d n : Nat} {σ : Nat → Int32} {p p' q : Nat} {L L1 : List Int32} (h : zMA d n σ p p' L) (a : zTT d σ p' true q L1) : zMB d n σ p q (if n = 0 then L1 else L ++ L1 ++ [-3]) := by
  unfold zTT at a
  rw [if_pos rfl] at a
  obtain ⟨a1, a2, a0, L1', a3, a4⟩ := a
  rcases h with ⟨h1, h2, h3⟩ | ⟨h1, h2, h3, L', h4, h5⟩
  · rw [if_pos h1]
    subst h1 h2
    refine ⟨by omega, a2, a0, L1', zSem_m a3 (by omega), fun w o hw ht h8 h4 => ?_⟩
    obtain ⟨w1, o1, b1, b2⟩ := a4 w o hw ht h8
    exact ⟨w1, o1, b1, by rw [b2, zse_0 h8 (Or.inr h4)]⟩
  · rw [if_neg (by omega)]
    refine ⟨by omega, by rw [List.length_append, List.length_append]; show p + (L.length + L1.length + 1) ≤ q; omega, a0, L' ++ L1' ++ [-124], zSem_o h4 a3 (Nat.le_refl _) (by omega) (by omega), fun w o hw ht h8 h6 => ?_⟩
    obtain ⟨w1, o1, b1, b2⟩ := a4 (124 :: w) (o ++ L') (zopn_124 hw) (zwt_c (by decide)) (zwt_c (by decide))
    exact ⟨w1, o1, zyR_t (h5 w o hw ht h8 h6) b1, by rw [b2, zse_124, zse_0 h8 (Or.inr h6), List.append_assoc, List.append_assoc, List.append_assoc]⟩
theorem zA_e {d n : Nat} {σ : Nat → Int32} {p q : Nat} {L : List Int32} (h : zMB d n σ p q L) (c : ¬ σ q = 124) : zTA d σ p true q L := by
  obtain ⟨h1, h2, h3, h4⟩ := h
  unfold zTA
  rw [if_pos rfl]
  exact ⟨by omega, h2, h3, c, h4⟩
theorem zA_s {d n : Nat} {σ : Nat → Int32} {p q : Nat} {L : List Int32} (h : zMB d n σ p q L) (c : σ q = 124) : zMA d (n + 1) σ p (q + 1) L := by
  obtain ⟨h1, h2, h3, L', h4, h5⟩ := h
  refine Or.inr ⟨by omega, by omega, by omega, L', h4, fun w o hw ht h8 h6 => ?_⟩
  obtain ⟨w1, o1, b1, b2⟩ := h5 w o hw ht h8 h6
  refine zyR_t b1 (zyR_1 ?_)
  rw [zst1_O]
  unfold zsO
  rw [if_pos (Or.inr c), c, b2]
theorem zTA_E {σ : Nat → Int32} {p q : Nat} {b : Bool} {L : List Int32} (h : zTA 0 σ p b q L) : ∃ L' : List Int32, zyE σ p b q L' ∧ (b = true → zSem 11 L L' ∧ p + L.length ≤ q) := by
  unfold zTA at h
  unfold zyE
  have nt : ∀ c : Int32, zwt [] c := fun c z => absurd z (by simp)
  cases b with
  | false =>
    rw [if_neg Bool.false_ne_true] at h
    refine ⟨[], ?_, fun z => absurd z (by decide)⟩
    rw [if_neg Bool.false_ne_true]
    exact h [] [] rfl (nt _) (nt _) (nt _)
  | true =>
    rw [if_pos rfl] at h
    obtain ⟨h1, h2, h3, h4, L', h5, h6⟩ := h
    obtain ⟨w1, o1, b1, b2⟩ := h6 [] [] rfl (nt _) (nt _) (nt _)
    refine ⟨L', ?_, fun _ => ⟨h5, h2⟩⟩
    rw [if_pos rfl]
    refine zyR_t b1 (zyR_1 ?_)
    rw [zst1_O]
    unfold zsO
    rw [if_neg (fun z => z.elim h3 h4), b2]
    rfl
/-! what the class lays in a HOUSE as it reads -/
def zq9 (M : pvM) : Nat := pvhp (M.1 6 4)
def zin (q a : Nat) : Prop := a = q ∨ a = q + 9 ∨ a = q + 18 ∨ a = q + 27
/-- but for the HOUSE that is read all HOUSES stay, and the text -/
def zHx (M X : pvM) : Prop := X.1 6 1 = M.1 6 1 ∧ X.1 6 4 = M.1 6 4 ∧ (∀ i : Nat, X.1 7 i = M.1 7 i) ∧ ∀ a b : Nat, 15 ≤ a → a < 51 → ¬ zin (zq9 M) a → X.1 a b = M.1 a b
theorem zHx_r (M : pvM) : zHx M M := ⟨rfl, rfl, fun _ => rfl, fun _ _ _ _ _ => rfl⟩
theorem zHx_q {M X : pvM} (h : zHx M X) : zq9 X = zq9 M := congrArg pvhp h.2.1
theorem zKh_q {M X : pvM} (h : zKh M X) : zq9 X = zq9 M := congrArg pvhp h.2.1
theorem zHx_s {M X : pvM} (h : zHx M X) : zs9 X = zs9 M := zs9_k h.1 h.2.2.1
theorem zHx_t {M Y X : pvM} (h : zHx M Y) (k : zHx Y X) : zHx M X := ⟨k.1.trans h.1, k.2.1.trans h.2.1, fun i => (k.2.2.1 i).trans (h.2.2.1 i), fun a b h1 h2 h3 => (k.2.2.2 a b h1 h2 (by rw [zHx_q h]; exact h3)).trans (h.2.2.2 a b h1 h2 h3)⟩
theorem zHx_k {M X : pvM} (h : zKh M X) : zHx M X := ⟨h.1, h.2.1, fun i => h.2.2 7 i (Nat.le_refl _), fun a b h1 _ _ => h.2.2 a b (by omega)⟩
def zAq (M X : pvM) (L : List Int32) : Prop := (∀ k : Nat, k < 5 → X.1 (zq9 M) k = M.1 (zq9 M) k) ∧ (∀ b : Nat, X.1 (zq9 M + 9) b = M.1 (zq9 M + 9) b) ∧ (∀ b : Nat, X.1 (zq9 M + 18) b = M.1 (zq9 M + 18) b) ∧ (X.1 (zq9 M) 5).toInt = (M.1 (zq9 M) 5).toInt + L.length ∧ (∀ j : Nat, (j : Int) < (M.1 (zq9 M) 5).toInt → X.1 (zq9 M + 27) j = M.1 (zq9 M + 27) j) ∧ ∀ j : Nat, j < L.length → X.1 (zq9 M + 27) (Int32.toNatClampNeg (M.1 (zq9 M) 5) + j) = L.getD j 0
def zRs (M : pvM) : Prop := zRq M ∧ (15 ≤ zq9 M ∧ zq9 M ≤ 23) ∧ 0 ≤ (M.1 (zq9 M) 5).toInt ∧ (M.1 (zq9 M) 5).toInt ≤ (M.1 6 2).toInt
theorem zAp_0 {M X : pvM} (hs : zRs M) (h : zKh M X) : zAq M X [] := by
  have q := hs.2.1
  exact ⟨fun k _ => h.2.2 _ k (by omega), fun b => h.2.2 _ b (by omega), fun b => h.2.2 _ b (by omega), by rw [h.2.2 _ 5 (by omega)]; exact (Int.add_zero _).symm, fun j _ => h.2.2 _ j (by omega), fun j hj => absurd hj (Nat.not_lt_zero _)⟩
theorem zAp_k {M Y X : pvM} {L : List Int32} (hs : zRs M) (k : zAq M Y L) (h : zKh Y X) : zAq M X L := by
  have q := hs.2.1
  obtain ⟨k1, k2, k3, k4, k5, k6⟩ := k
  exact ⟨fun k z => (h.2.2 _ k (by omega)).trans (k1 k z), fun b => (h.2.2 _ b (by omega)).trans (k2 b), fun b => (h.2.2 _ b (by omega)).trans (k3 b), by rw [h.2.2 _ 5 (by omega)]; exact k4, fun j z => (h.2.2 _ j (by omega)).trans (k5 j z), fun j hj => (h.2.2 _ _ (by omega)).trans (k6 j hj)⟩
theorem zAp_t {M Y X : pvM} {L L2 : List Int32} (hs : zRs M) (hx : zHx M Y) (k : zAq M Y L) (h : zAq Y X L2) : zAq M X (L ++ L2) := by
  obtain ⟨k1, k2, k3, k4, k5, k6⟩ := k
  obtain ⟨h1, h2, h3, h4, h5, h6⟩ := h
  rw [zHx_q hx] at h1 h2 h3 h4 h5 h6
  have s0 := hs.2.2.1
  have e0 := ztn _ s0
  have e1 := ztn (Y.1 (zq9 M) 5) (by omega)
  refine ⟨fun k z => (h1 k z).trans (k1 k z), fun b => (h2 b).trans (k2 b), fun b => (h3 b).trans (k3 b), by rw [h4, k4, List.length_append]; omega, fun j z => (h5 j (by omega)).trans (k5 j z), fun j hj => ?_⟩
  rw [List.length_append] at hj
  by_cases c : j < L.length
  · rw [h5 _ (by omega), k6 j c, List.getD_eq_getElem?_getD, List.getD_eq_getElem?_getD, List.getElem?_append_left c]
  · have e2 : Int32.toNatClampNeg (M.1 (zq9 M) 5) + j = Int32.toNatClampNeg (Y.1 (zq9 M) 5) + (j - L.length) := by omega
    rw [e2, h6 _ (by omega), List.getD_eq_getElem?_getD, List.getD_eq_getElem?_getD, List.getElem?_append_right (by omega)]
/-- one step more -/
def zpS (M : pvM) (q : Nat) (n : Int32) : pvM := pvu (pvu M (q + 27) (Int32.toNatClampNeg (M.1 q 5)) n) q 5 (M.1 q 5 + 1)
def zSs (q : Nat) (n : Int32) (M X : pvM) : Prop := ((M.1 q 5).toInt < 100 ∧ X = zpS M q n) ∨ (100 ≤ (M.1 q 5).toInt ∧ X = M)
theorem zSs_o {q : Nat} {n : Int32} {M X : pvM} (h : zSs q n M X) (a b : Nat) (h1 : a ≠ q ∨ b ≠ 5) (h2 : a ≠ q + 27) : X.1 a b = M.1 a b := by
  rcases h with ⟨_, e⟩ | ⟨_, e⟩
  · have e1 : pvu M (q + 27) (Int32.toNatClampNeg (M.1 q 5)) n = pvu M (q + 27) (Int32.toNatClampNeg (M.1 q 5)) n := rfl
    exact (pvu_n (show X = pvu (pvu M (q + 27) (Int32.toNatClampNeg (M.1 q 5)) n) q 5 (M.1 q 5 + 1) from e) a b h1).trans (pvu_n e1 a b (Or.inl h2))
  · rw [e]
theorem zSs_x {q : Nat} {n : Int32} {M X : pvM} (hs : 15 ≤ zq9 M ∧ zq9 M ≤ 23) (e : q = zq9 M) (h : zSs q n M X) : zHx M X ∧ X.1 6 2 = M.1 6 2 ∧ X.1 6 3 = M.1 6 3 := by
  subst e
  exact ⟨⟨zSs_o h 6 1 (Or.inr (by decide)) (by omega), zSs_o h 6 4 (Or.inr (by decide)) (by omega), fun i => zSs_o h 7 i (Or.inl (by omega)) (by omega), fun a b h1 h2 h3 => zSs_o h a b (Or.inl (fun z => h3 (Or.inl z))) (fun z => h3 (Or.inr (Or.inr (Or.inr z))))⟩, zSs_o h 6 2 (Or.inr (by decide)) (by omega), zSs_o h 6 3 (Or.inr (by decide)) (by omega)⟩
theorem zSs_a {q : Nat} {n : Int32} {M X : pvM} (e : q = zq9 M) (h0 : 0 ≤ (M.1 q 5).toInt) (h1 : (M.1 q 5).toInt < 100) (h : zSs q n M X) : zAq M X [n] := by
  subst e
  have o := zSs_o h
  rcases h with ⟨_, e⟩ | ⟨z, _⟩
  · have e1 : pvu M (zq9 M + 27) (Int32.toNatClampNeg (M.1 (zq9 M) 5)) n = pvu M (zq9 M + 27) (Int32.toNatClampNeg (M.1 (zq9 M) 5)) n := rfl
    have e : X = pvu (pvu M (zq9 M + 27) (Int32.toNatClampNeg (M.1 (zq9 M) 5)) n) (zq9 M) 5 (M.1 (zq9 M) 5 + 1) := e
    have e0 := ztn _ h0
    refine ⟨fun k z => o _ k (Or.inr (by omega)) (by omega), fun b => o _ b (Or.inl (by omega)) (by omega), fun b => o _ b (Or.inl (by omega)) (by omega), ?_, fun j z => ?_, fun j hj => ?_⟩
    · rw [pvu_s e, zadd_1 _ (by omega)]
      rfl
    · rw [pvu_n e _ _ (Or.inl (by omega)), pvu_n e1 _ _ (Or.inr (by omega))]
    · have : j = 0 := Nat.lt_one_iff.mp hj
      subst this
      rw [pvu_n e _ _ (Or.inl (by omega))]
      exact pvu_s e1
  · omega
/-- so far, and what was laid -/
def zAc (M Y : pvM) (L : List Int32) : Prop := zRq Y ∧ zHx M Y ∧ zAq M Y L ∧ zP9 M + L.length ≤ zP9 Y
theorem zP9_i {M : pvM} (h : zRq M) : (zP9 M : Int) = (M.1 6 2).toInt := ztn _ h.1.1
theorem zAc_0 {M : pvM} (hs : zRs M) : zAc M M [] := ⟨hs.1, zHx_r M, zAp_0 hs (zKh_r M), Nat.le_refl _⟩
theorem zAc_k {M Y X : pvM} {L : List Int32} (hs : zRs M) (h : zAc M Y L) (hq : zRq X) (k : zKh Y X) (hp : zP9 Y ≤ zP9 X) : zAc M X L := ⟨hq, zHx_t h.2.1 (zHx_k k), zAp_k hs h.2.2.1 k, by have := h.2.2.2; omega⟩
theorem zAc_c {M Y X : pvM} {L L2 : List Int32} (hs : zRs M) (h : zAc M Y L) (hq : zRq X) (hx : zHx Y X) (ha : zAq Y X L2) (hp : zP9 Y + L2.length ≤ zP9 X) : zAc M X (L ++ L2) := ⟨hq, zHx_t h.2.1 hx, zAp_t hs h.2.1 h.2.2.1 ha, by have := h.2.2.2; rw [List.length_append]; omega⟩
theorem zAc_rs {M Y : pvM} {L : List Int32} (hs : zRs M) (h : zAc M Y L) : zRs Y := by
  obtain ⟨a, b, c, d⟩ := h
  have e1 := zP9_i hs.1
  have e2 := zP9_i a
  have q := zHx_q b
  refine ⟨a, by rw [q]; exact hs.2.1, ?_, ?_⟩
  · rw [q, c.2.2.2.1]
    have := hs.2.2.1
    omega
  · rw [q, c.2.2.2.1]
    have := hs.2.2.2
    omega
theorem zRq_s {M X : pvM} (h : zRq M) (hx : zHx M X) (h2 : X.1 6 2 = M.1 6 2) (h3 : X.1 6 3 = M.1 6 3) : zRq X ∧ zP9 X = zP9 M := ⟨zRq_k h hx.1 h2 h3 hx.2.2.1, by unfold zP9; rw [h2]⟩
theorem zAc_s {M Y X : pvM} {L : List Int32} {q : Nat} {n : Int32} (hs : zRs M) (h : zAc M Y L) (e : q = zq9 Y) (d : zSs q n Y X) (hlt : zP9 M + L.length < zP9 Y) : zAc M X (L ++ [n]) ∧ zP9 X = zP9 Y := by
  have rs := zAc_rs hs h
  obtain ⟨x1, x2, x3⟩ := zSs_x rs.2.1 e d
  obtain ⟨r1, r2⟩ := zRq_s h.1 x1 x2 x3
  have e1 := zP9_i hs.1
  have e2 := zP9_i h.1
  have s1 := h.2.2.1.2.2.2.1
  have s2 := hs.2.2
  have s3 := h.1.1
  refine ⟨⟨r1, zHx_t h.2.1 x1, zAp_t hs h.2.1 h.2.2.1 (zSs_a e ?_ ?_ d), ?_⟩, r2⟩
  · rw [e, zHx_q h.2.1]
    omega
  · rw [e, zHx_q h.2.1]
    omega
  · rw [List.length_append, r2]
    show zP9 M + (L.length + 1) ≤ _
    omega
theorem zKh_p {M Y : pvM} (h : zRs M) (hq : zRq Y) (k : zKh M Y) (hp : zP9 M ≤ zP9 Y) : zRs Y := zAc_rs h (zAc_k h (zAc_0 h) hq k hp)
/-- a reading that lays steps -/
def zRc (T : (Nat → Int32) → Nat → Bool → Nat → List Int32 → Prop) (r : Option pvV) (M X : pvM) : Prop := zRq X ∧ zHx M X ∧ ∃ (b : Bool) (L : List Int32), r = some (pvI (bif b then 1 else 0)) ∧ (b = true → zAq M X L) ∧ T (zs9 M) (zP9 M) b (zP9 X) L
theorem zRc_y {T : (Nat → Int32) → Nat → Bool → Nat → List Int32 → Prop} {x : Int32} {M X : pvM} (h : zRc T (some (pvI x)) M X) (c : ¬ x = 0) : zRq X ∧ zHx M X ∧ ∃ L : List Int32, zAq M X L ∧ T (zs9 M) (zP9 M) true (zP9 X) L := by
  obtain ⟨a, b, t, L, e, k, l⟩ := h
  have e : x = bif t then 1 else 0 := Sum.inl.inj (Option.some.inj e)
  cases t
  · exact absurd e c
  · exact ⟨a, b, L, k rfl, l⟩
theorem zRc_n {T : (Nat → Int32) → Nat → Bool → Nat → List Int32 → Prop} {x : Int32} {M X : pvM} (h : zRc T (some (pvI x)) M X) (c : x = 0) : zRq X ∧ zHx M X ∧ ∃ L : List Int32, T (zs9 M) (zP9 M) false (zP9 X) L := by
  obtain ⟨a, b, t, L, e, k, l⟩ := h
  have e : x = bif t then 1 else 0 := Sum.inl.inj (Option.some.inj e)
  cases t
  · exact ⟨a, b, L, l⟩
  · rw [c] at e
    exact absurd e (by decide)
/-- a test -/
def zTt (σ : Nat → Int32) (p : Nat) (b : Bool) (q : Nat) (L : List Int32) : Prop := ztst σ p = (b, q) ∧ (b = true → L = [zk9 σ p])
def zLET : List Int32 := [119, 107, 102, 114, 115, 116]
def zSIG : List Int32 := [60, 61, 62]
theorem zlf_i (c : Int32) : (if c = -1 then (-1 : Int32) else pvixF c zLET 0) = zlf c := by
  unfold zLET zlf
  by_cases c0 : c = -1
  · rw [if_pos c0, c0]
    decide
  rw [if_neg c0]
  unfold pvixF
  by_cases k1 : c = 119
  · rw [if_pos k1.symm, if_pos k1]; rfl
  rw [if_neg (fun z => k1 z.symm), if_neg k1]
  unfold pvixF
  by_cases k2 : c = 107
  · rw [if_pos k2.symm, if_pos k2]; rfl
  rw [if_neg (fun z => k2 z.symm), if_neg k2]
  unfold pvixF
  by_cases k3 : c = 102
  · rw [if_pos k3.symm, if_pos k3]; rfl
  rw [if_neg (fun z => k3 z.symm), if_neg k3]
  unfold pvixF
  by_cases k4 : c = 114
  · rw [if_pos k4.symm, if_pos k4]; rfl
  rw [if_neg (fun z => k4 z.symm), if_neg k4]
  unfold pvixF
  by_cases k5 : c = 115
  · rw [if_pos k5.symm, if_pos k5]; rfl
  rw [if_neg (fun z => k5 z.symm), if_neg k5]
  unfold pvixF
  by_cases k6 : c = 116
  · rw [if_pos k6.symm, if_pos k6]; rfl
  rw [if_neg (fun z => k6 z.symm), if_neg k6]
  rfl
theorem zlf_s (c : Int32) : (zlf c).toInt < 0 ↔ zlf c = -1 := by
  constructor
  · intro h
    by_cases z : zlf c = -1
    · exact z
    · obtain ⟨⟨l, hl, e⟩, -⟩ := zlf_r z
      rw [e, nI_toInt (by omega)] at h
      omega
  · intro h
    rw [h]
    decide
theorem zsg_i (c : Int32) : (zsg c = true → (if c = -1 then (-1 : Int32) else pvixF c zSIG 0) = c - 60) ∧ ((if c = -1 then (-1 : Int32) else pvixF c zSIG 0).toInt < 0 ↔ ¬ zsg c = true) := by
  unfold zSIG
  by_cases c0 : c = -1
  · rw [if_pos c0, c0]
    exact ⟨fun z => absurd z (by decide), by decide⟩
  rw [if_neg c0]
  unfold pvixF
  by_cases k1 : 60 = c
  · rw [if_pos k1, ← k1]; decide
  rw [if_neg k1]
  unfold pvixF
  by_cases k2 : 61 = c
  · rw [if_pos k2, ← k2]; decide
  rw [if_neg k2]
  unfold pvixF
  by_cases k3 : 62 = c
  · rw [if_pos k3, ← k3]; decide
  rw [if_neg k3]
  have n : ¬ zsg c = true := by
    intro z
    unfold zsg at z
    rw [Bool.and_eq_true, decide_eq_true_eq, decide_eq_true_eq, zi_le, zi_le] at z
    rw [zi_eq] at k1 k2 k3
    have u1 : (60 : Int32).toInt = 60 := by decide
    have u2 : (61 : Int32).toInt = 61 := by decide
    have u3 : (62 : Int32).toInt = 62 := by decide
    omega
  exact ⟨fun z => absurd z n, fun _ => n, fun _ => (show (-1 : Int32).toInt < 0 from by decide)⟩
theorem zRo_c {l : List Int32} {x : Int32} {M X : pvM} (h : zRo l (some (pvI x)) M X) : zRq X ∧ zKh M X ∧ x = (if zs9 M (zP9 M) = -1 then -1 else pvixF (zs9 M (zP9 M)) l 0) ∧ zP9 X = (if x.toInt < 0 then zP9 M else zP9 M + 1) := by
  obtain ⟨a, b, y, e, k, p⟩ := h
  have e : x = y := Sum.inl.inj (Option.some.inj e)
  subst e
  exact ⟨a, b, k, p⟩
theorem zTt_1 {x : Int32} {M A : pvM} (d : zRo zLET (some (pvI x)) M A) (c : x.toInt < 0) : zRc zTt (some (pvI 0)) M A := by
  obtain ⟨a, b, k, p⟩ := zRo_c d
  refine ⟨a, zHx_k b, false, [], rfl, fun z => absurd z (by decide), ?_, fun z => absurd z (by decide)⟩
  rw [if_pos c] at p
  rw [k, zlf_i, zlf_s] at c
  unfold ztst
  rw [if_neg (fun z => z c), p]
theorem zTt_2 {x y : Int32} {M A B : pvM} (d : zRo zLET (some (pvI x)) M A) (c : ¬ x.toInt < 0) (d2 : zRo zSIG (some (pvI y)) A B) (c2 : y.toInt < 0) : zRc zTt (some (pvI 0)) M B := by
  obtain ⟨a, b, k, p⟩ := zRo_c d
  obtain ⟨a2, b2, k2, p2⟩ := zRo_c d2
  refine ⟨a2, zHx_k (zKh_t b b2), false, [], rfl, fun z => absurd z (by decide), ?_, fun z => absurd z (by decide)⟩
  rw [if_neg c] at p
  rw [if_pos c2] at p2
  rw [k, zlf_i, zlf_s] at c
  rw [k2, zKh_s b, p, (zsg_i _).2] at c2
  unfold ztst
  rw [if_pos c, if_neg c2, p2, p]
theorem zTt_3 {x y z : Int32} {M A B X : pvM} (d : zRo zLET (some (pvI x)) M A) (c : ¬ x.toInt < 0) (d2 : zRo zSIG (some (pvI y)) A B) (c2 : ¬ y.toInt < 0) (d3 : zRn (some (pvI z)) B X) (c3 : z.toInt < 0) : zRc zTt (some (pvI 0)) M X := by
  obtain ⟨a, b, k, p⟩ := zRo_c d
  obtain ⟨a2, b2, k2, p2⟩ := zRo_c d2
  obtain ⟨a3, b3, k3, p3⟩ := zRn_no d3 c3
  refine ⟨a3, zHx_k (zKh_t (zKh_t b b2) b3), false, [], rfl, fun z => absurd z (by decide), ?_, fun z => absurd z (by decide)⟩
  rw [if_neg c] at p
  rw [if_neg c2, p] at p2
  rw [k, zlf_i, zlf_s] at c
  rw [k2, zKh_s b, p, (zsg_i _).2, Decidable.not_not] at c2
  rw [zKh_s (zKh_t b b2), p2] at k3 p3
  unfold ztst
  rw [if_pos c, if_pos c2, show zP9 M + 2 = zP9 M + 1 + 1 from rfl, k3, p3]
theorem zTt_4 {x y z : Int32} {q : Nat} {M A B C X : pvM} (hs : zRs M) (d : zRo zLET (some (pvI x)) M A) (c : ¬ x.toInt < 0) (d2 : zRo zSIG (some (pvI y)) A B) (c2 : ¬ y.toInt < 0) (d3 : zRn (some (pvI z)) B C) (c3 : ¬ z.toInt < 0) (e : q = zq9 C) (d4 : zSs q ((((x * 3) + y) * 100) + z) C X) : zRc zTt (some (pvI 1)) M X := by
  obtain ⟨a, b, k, p⟩ := zRo_c d
  obtain ⟨a2, b2, k2, p2⟩ := zRo_c d2
  obtain ⟨a3, b3, k3, p3, k4⟩ := zRn_y d3 c3
  have bb := zKh_t (zKh_t b b2) b3
  rw [if_neg c] at p
  rw [if_neg c2, p] at p2
  rw [k, zlf_i, zlf_s] at c
  rw [k2, zKh_s b, p, (zsg_i _).2, Decidable.not_not] at c2
  rw [k2, zKh_s b, p, (zsg_i _).1 c2, k, zlf_i] at d4
  rw [zKh_s (zKh_t b b2), p2] at k3 p3 k4
  have t : ztst (zs9 M) (zP9 M) = (true, zP9 C) := by
    unfold ztst
    rw [if_pos c, if_pos c2, show zP9 M + 2 = zP9 M + 1 + 1 from rfl, k3, p3]
  have l := (zk_sem t (Nat.le_refl 1)).2
  have ac : zAc M C [] := zAc_k hs (zAc_0 hs) a3 bb (by omega)
  obtain ⟨g1, g2⟩ := zAc_s hs ac e d4 (by show zP9 M + 0 < _; omega)
  refine ⟨g1.1, g1.2.1, true, _, rfl, fun _ => g1.2.2.1, by rw [g2]; exact t, fun _ => ?_⟩
  rw [k4]
  rfl
/-! an F of the class's reader -/
def zOn9 (d k : Nat) (M Y : pvM) : Prop := zRq Y ∧ zKh M Y ∧ zOn d k (zs9 M) (zP9 M) (zP9 Y)
theorem zOn9_0 {d : Nat} {M : pvM} (hs : zRs M) (h : d ≤ 4) : zOn9 d 0 M M := ⟨hs.1, zKh_r M, zOn_0 h⟩
theorem zOn9_b {d k : Nat} {x : Int32} {M Y X : pvM} (h : zOn9 d k M Y) (hk : d + k < 4) (b : zRb (zTsg 33) (some (pvI x)) Y X) (c : ¬ x = 0) : zOn9 d (k + 1) M X := by
  obtain ⟨h1, h2, h3⟩ := h
  obtain ⟨a1, a2, a3⟩ := zRb_y b c
  obtain ⟨e1, e2⟩ := zTsg_y a3
  rw [zKh_s h2] at e1
  exact ⟨a1, zKh_t h2 a2, by rw [e2]; exact zOn_s h3 hk e1⟩
/-- and then no more -/
def zOm9 (d k : Nat) (M Y : pvM) : Prop := zOn9 d k M Y ∧ (d + k < 4 → ¬ zs9 M (zP9 Y) = 33)
theorem zOm9_n {d k : Nat} {x : Int32} {M Y X : pvM} (h : zOn9 d k M Y) (b : zRb (zTsg 33) (some (pvI x)) Y X) (c : x = 0) : zOm9 d k M X := by
  obtain ⟨h1, h2, h3⟩ := h
  obtain ⟨a1, a2, a3⟩ := zRb_n b c
  obtain ⟨e1, e2⟩ := zTsg_n a3
  rw [zKh_s h2] at e1
  exact ⟨⟨a1, zKh_t h2 a2, by rw [e2]; exact h3⟩, fun _ => by rw [e2]; exact e1⟩
theorem zOm9_f {d k : Nat} {M Y : pvM} (h : zOn9 d k M Y) (hk : ¬ d + k < 4) : zOm9 d k M Y := ⟨h, fun z => absurd z hk⟩
theorem zOm9_p {d k : Nat} {x : Int32} {M Y X : pvM} (h : zOm9 d k M Y) (b : zRb (zTsg 40) (some (pvI x)) Y X) (c : x = 0) : zOm9 d k M X ∧ (d + k < 4 → ¬ zs9 M (zP9 X) = 40) := by
  obtain ⟨⟨h1, h2, h3⟩, h5⟩ := h
  obtain ⟨a1, a2, a3⟩ := zRb_n b c
  obtain ⟨e1, e2⟩ := zTsg_n a3
  rw [zKh_s h2] at e1
  exact ⟨⟨⟨a1, zKh_t h2 a2, by rw [e2]; exact h3⟩, fun z => by rw [e2]; exact h5 z⟩, fun _ => by rw [e2]; exact e1⟩
/-- what is read ahead of its ! -/
def zOu (d k : Nat) (x : Int32) (M X : pvM) : Prop := (x = 0 ∧ zRq X ∧ zHx M X ∧ ∀ L : List Int32, zTO d (zs9 M) (zP9 M) false (zP9 X) L) ∨ (x = 1 ∧ ∃ L : List Int32, zAc M X L ∧ zP9 M + L.length + k ≤ zP9 X ∧ zTO d (zs9 M) (zP9 M) true (zP9 X) (L ++ (if k % 2 = 1 then [-1] else [])))
theorem zOt9 {d k : Nat} {x : Int32} {M Y X : pvM} (hs : zRs M) (h : zOm9 d k M Y) (hp : d + k < 4 → ¬ zs9 M (zP9 Y) = 40) (b : zRc zTt (some (pvI x)) Y X) (hx : x = 0 ∨ x = 1) : zOu d k x M X := by
  obtain ⟨⟨h1, h2, h3⟩, h5⟩ := h
  rcases hx with rfl | rfl
  · obtain ⟨a1, a2, L, a3, -⟩ := zRc_n b rfl
    rw [zKh_s h2] at a3
    exact Or.inl ⟨rfl, a1, zHx_t (zHx_k h2) a2, fun L => zO_f h3 (fun z => ⟨h5 z, hp z⟩) a3 L⟩
  · obtain ⟨a1, a2, L, a4, a3, a5⟩ := zRc_y b (by decide)
    have a5 := a5 rfl
    rw [zKh_s h2] at a3 a5
    have l := (zk_sem a3 (Nat.le_refl 1)).2
    have p := h3.1
    subst a5
    refine Or.inr ⟨rfl, _, zAc_c hs (zAc_k hs (zAc_0 hs) h1 h2 (by omega)) a1 a2 a4 (by show zP9 Y + 1 ≤ _; omega), ?_, ?_⟩
    · show zP9 M + 1 + k ≤ _
      omega
    · exact zO_t h3 a3
/-- a parenthesis is open -/
def zOp9 (d k : Nat) (M Y : pvM) : Prop := zRq Y ∧ zKh M Y ∧ zOp d k (zs9 M) (zP9 M) (zP9 Y)
theorem zOp9_y {d k : Nat} {x : Int32} {M Y X : pvM} (h : zOm9 d k M Y) (hk : d + k < 4) (b : zRb (zTsg 40) (some (pvI x)) Y X) (c : ¬ x = 0) : zOp9 d k M X := by
  obtain ⟨⟨h1, h2, h3⟩, h5⟩ := h
  obtain ⟨a1, a2, a3⟩ := zRb_y b c
  obtain ⟨e1, e2⟩ := zTsg_y a3
  rw [zKh_s h2] at e1
  exact ⟨a1, zKh_t h2 a2, by rw [e2]; exact zOp_i h3 hk e1⟩
theorem zOp9_n {d k n : Nat} {x : Int32} {M Y X : pvM} (h : zOp9 d k M Y) (hn : n = d + k + 1) (b : zRc (zTA n) (some (pvI x)) Y X) (c : x = 0) : zOu d k 0 M X := by
  obtain ⟨h1, h2, h3⟩ := h
  obtain ⟨a1, a2, L, a3⟩ := zRc_n b c
  rw [zKh_s h2] at a3
  exact Or.inl ⟨rfl, a1, zHx_t (zHx_k h2) a2, fun L => zO_pf h3 hn a3 L⟩
theorem zTA_l {d p q : Nat} {σ : Nat → Int32} {L : List Int32} (h : zTA d σ p true q L) : p + L.length ≤ q := by
  unfold zTA at h
  rw [if_pos rfl] at h
  exact h.2.1
theorem zTL_l {d p q : Nat} {σ : Nat → Int32} {L : List Int32} (h : zTT d σ p true q L) : p + L.length ≤ q := by
  unfold zTT at h
  rw [if_pos rfl] at h
  exact h.2.1
theorem zTO_l {d p q : Nat} {σ : Nat → Int32} {L : List Int32} (h : zTO d σ p true q L) : p + L.length ≤ q := by
  unfold zTO at h
  rw [if_pos rfl] at h
  exact h.2.1
theorem zOp9_c {d k n : Nat} {x y : Int32} {M Y Z X : pvM} (hs : zRs M) (h : zOp9 d k M Y) (hn : n = d + k + 1) (b : zRc (zTA n) (some (pvI x)) Y Z) (c : ¬ x = 0) (b2 : zRb (zTsg 41) (some (pvI y)) Z X) : (y = 0 → zOu d k 0 M X) ∧ (¬ y = 0 → zOu d k 1 M X) := by
  obtain ⟨h1, h2, h3⟩ := h
  obtain ⟨a1, a2, L, a4, a3⟩ := zRc_y b c
  have sz : zs9 Z = zs9 M := (zHx_s a2).trans (zKh_s h2)
  rw [zKh_s h2] at a3
  have l := zTA_l a3
  have p := h3.1
  refine ⟨fun e => ?_, fun e => ?_⟩
  · obtain ⟨c1, c2, c3⟩ := zRb_n b2 e
    obtain ⟨e1, e2⟩ := zTsg_n c3
    rw [sz] at e1
    exact Or.inl ⟨rfl, c1, zHx_t (zHx_t (zHx_k h2) a2) (zHx_k c2), fun L2 => by rw [e2]; exact zO_pn h3 hn a3 e1 L2⟩
  · obtain ⟨c1, c2, c3⟩ := zRb_y b2 e
    obtain ⟨e1, e2⟩ := zTsg_y c3
    rw [sz] at e1
    refine Or.inr ⟨rfl, L, zAc_k hs (zAc_c hs (zAc_k hs (zAc_0 hs) h1 h2 (by omega)) a1 a2 a4 l) c1 c2 (by omega), by omega, ?_⟩
    rw [e2]
    exact zO_py h3 hn a3 e1
theorem zOe_e {d k : Nat} {x : Int32} {M X : pvM} (h : zOu d k x M X) (hk : k % 2 = 0) : zRc (zTO d) (some (pvI x)) M X := by
  rcases h with ⟨rfl, h1, h2, h3⟩ | ⟨rfl, L, h1, h2, h3⟩
  · exact ⟨h1, h2, false, [], rfl, fun z => absurd z (by decide), h3 []⟩
  · rw [if_neg (by omega), List.append_nil] at h3
    exact ⟨h1.1, h1.2.1, true, L, rfl, fun _ => h1.2.2.1, h3⟩
theorem zOe_o {d k q : Nat} {x : Int32} {M Y X : pvM} (hs : zRs M) (h : zOu d k x M Y) (hk : k % 2 = 1) (e : q = zq9 Y) (d1 : zSs q (-1) Y X) : zRc (zTO d) (some (pvI x)) M X := by
  rcases h with ⟨rfl, h1, h2, h3⟩ | ⟨rfl, L, h1, h2, h3⟩
  · obtain ⟨x1, x2, x3⟩ := zSs_x (by rw [zHx_q h2]; exact hs.2.1) e d1
    obtain ⟨r1, r2⟩ := zRq_s h1 x1 x2 x3
    exact ⟨r1, zHx_t h2 x1, false, [], rfl, fun z => absurd z (by decide), by rw [r2]; exact h3 []⟩
  · obtain ⟨g1, g2⟩ := zAc_s hs h1 e d1 (by omega)
    rw [if_pos hk] at h3
    exact ⟨g1.1, g1.2.1, true, _, rfl, fun _ => g1.2.2.1, by rw [g2]; exact h3⟩
/-! a T -/
def zLT9 (d n : Nat) (M Y : pvM) : Prop := ∃ L : List Int32, zAc M Y L ∧ zLT d n (zs9 M) (zP9 M) (zP9 Y) L
theorem zLT9_0 {d : Nat} {M : pvM} (hs : zRs M) : zLT9 d (Int32.toNatClampNeg 0) M M := ⟨[], zAc_0 hs, Or.inl ⟨rfl, rfl, rfl⟩⟩
theorem zLT9_n {d n n' : Nat} {M X : pvM} (e : n' = n) (h : zLT9 d n M X) : zLT9 d n' M X := e ▸ h
theorem zLT9_x {d n : Nat} {M Y : pvM} (h : zLT9 d n M Y) (hn : 100 ≤ n) : False := by
  obtain ⟨L, a, b⟩ := h
  have h1 := (zLT_b b).1
  have h2 := zP9_i a.1
  have h3 := a.1.1
  omega
theorem zLT9_rs {d n : Nat} {M Y : pvM} (hs : zRs M) (h : zLT9 d n M Y) : zRs Y := by
  obtain ⟨L, a, b⟩ := h
  exact zAc_rs hs a
def zLO9 (d n : Nat) (M Y : pvM) : Prop := ∃ L : List Int32, zAc M Y L ∧ zLO d n (zs9 M) (zP9 M) (zP9 Y) L
theorem zT9_f {d n : Nat} {x : Int32} {M Y X : pvM} (h : zLT9 d n M Y) (b : zRc (zTO d) (some (pvI x)) Y X) (c : x = 0) : zRc (zTT d) (some (pvI 0)) M X := by
  obtain ⟨L, a, h⟩ := h
  obtain ⟨a1, a2, L1, a3⟩ := zRc_n b c
  rw [zHx_s a.2.1] at a3
  exact ⟨a1, zHx_t a.2.1 a2, false, [], rfl, fun z => absurd z (by decide), zT_f h a3 []⟩
theorem zT9_o {d n : Nat} {x : Int32} {M Y X : pvM} (hs : zRs M) (h : zLT9 d n M Y) (b : zRc (zTO d) (some (pvI x)) Y X) (c : ¬ x = 0) (hn : n = 0) : zLO9 d n M X := by
  obtain ⟨L, a, h⟩ := h
  obtain ⟨a1, a2, L1, a4, a3⟩ := zRc_y b c
  have l := zTO_l a3
  rw [zHx_s a.2.1] at a3
  have k := zT_o h a3
  rw [if_pos hn] at k
  have e : L = [] := by
    rcases h with ⟨_, _, z⟩ | ⟨z, _⟩
    · exact z
    · omega
  subst e
  exact ⟨L1, zAc_c hs a a1 a2 a4 l, k⟩
theorem zT9_p {d n q : Nat} {x : Int32} {M Y Z X : pvM} (hs : zRs M) (h : zLT9 d n M Y) (b : zRc (zTO d) (some (pvI x)) Y Z) (c : ¬ x = 0) (hn : 0 < n) (e : q = zq9 Z) (d1 : zSs q (-2) Z X) : zLO9 d n M X := by
  obtain ⟨L, a, h⟩ := h
  obtain ⟨a1, a2, L1, a4, a3⟩ := zRc_y b c
  have l := zTO_l a3
  rw [zHx_s a.2.1] at a3
  have k := zT_o h a3
  rw [if_neg (by omega)] at k
  have hb := (zLT_b h).2.2 hn
  obtain ⟨g1, g2⟩ := zAc_s hs (zAc_c hs a a1 a2 a4 l) e d1 (by rw [List.length_append]; omega)
  exact ⟨_, g1, by rw [g2]; exact k⟩
theorem zT9_e {d n : Nat} {y : Int32} {M Y X : pvM} (hs : zRs M) (h : zLO9 d n M Y) (b : zRb (zTsg 38) (some (pvI y)) Y X) (c : y = 0) : zRc (zTT d) (some (pvI 1)) M X := by
  obtain ⟨L, a, h⟩ := h
  obtain ⟨a1, a2, a3⟩ := zRb_n b c
  obtain ⟨e1, e2⟩ := zTsg_n a3
  rw [zHx_s a.2.1] at e1
  have g := zAc_k hs a a1 a2 (by omega)
  exact ⟨a1, g.2.1, true, L, rfl, fun _ => g.2.2.1, by rw [e2]; exact zT_e h e1⟩
theorem zT9_s {d n : Nat} {y : Int32} {M Y X : pvM} (hs : zRs M) (h : zLO9 d n M Y) (b : zRb (zTsg 38) (some (pvI y)) Y X) (c : ¬ y = 0) : zLT9 d (n + 1) M X := by
  obtain ⟨L, a, h⟩ := h
  obtain ⟨a1, a2, a3⟩ := zRb_y b c
  obtain ⟨e1, e2⟩ := zTsg_y a3
  rw [zHx_s a.2.1] at e1
  exact ⟨L, zAc_k hs a a1 a2 (by omega), by rw [e2]; exact zT_s h e1⟩
/-! an E -/
def zLA9 (d n : Nat) (M Y : pvM) : Prop := ∃ L : List Int32, zAc M Y L ∧ zMA d n (zs9 M) (zP9 M) (zP9 Y) L
theorem zLA9_0 {d : Nat} {M : pvM} (hs : zRs M) : zLA9 d (Int32.toNatClampNeg 0) M M := ⟨[], zAc_0 hs, Or.inl ⟨rfl, rfl, rfl⟩⟩
theorem zLA9_n {d n n' : Nat} {M X : pvM} (e : n' = n) (h : zLA9 d n M X) : zLA9 d n' M X := e ▸ h
theorem zLA9_x {d n : Nat} {M Y : pvM} (h : zLA9 d n M Y) (hn : 100 ≤ n) : False := by
  obtain ⟨L, a, b⟩ := h
  have h1 := (zMA_b b).1
  have h2 := zP9_i a.1
  have h3 := a.1.1
  omega
theorem zLA9_rs {d n : Nat} {M Y : pvM} (hs : zRs M) (h : zLA9 d n M Y) : zRs Y := by
  obtain ⟨L, a, b⟩ := h
  exact zAc_rs hs a
def zLB9 (d n : Nat) (M Y : pvM) : Prop := ∃ L : List Int32, zAc M Y L ∧ zMB d n (zs9 M) (zP9 M) (zP9 Y) L
theorem zA9_f {d n : Nat} {x : Int32} {M Y X : pvM} (h : zLA9 d n M Y) (b : zRc (zTT d) (some (pvI x)) Y X) (c : x = 0) : zRc (zTA d) (some (pvI 0)) M X := by
  obtain ⟨L, a, h⟩ := h
  obtain ⟨a1, a2, L1, a3⟩ := zRc_n b c
  rw [zHx_s a.2.1] at a3
  exact ⟨a1, zHx_t a.2.1 a2, false, [], rfl, fun z => absurd z (by decide), zA_f h a3 []⟩
theorem zA9_o {d n : Nat} {x : Int32} {M Y X : pvM} (hs : zRs M) (h : zLA9 d n M Y) (b : zRc (zTT d) (some (pvI x)) Y X) (c : ¬ x = 0) (hn : n = 0) : zLB9 d n M X := by
  obtain ⟨L, a, h⟩ := h
  obtain ⟨a1, a2, L1, a4, a3⟩ := zRc_y b c
  have l := zTL_l a3
  rw [zHx_s a.2.1] at a3
  have k := zA_o h a3
  rw [if_pos hn] at k
  have e : L = [] := by
    rcases h with ⟨_, _, z⟩ | ⟨z, _⟩
    · exact z
    · omega
  subst e
  exact ⟨L1, zAc_c hs a a1 a2 a4 l, k⟩
theorem zA9_p {d n q : Nat} {x : Int32} {M Y Z X : pvM} (hs : zRs M) (h : zLA9 d n M Y) (b : zRc (zTT d) (some (pvI x)) Y Z) (c : ¬ x = 0) (hn : 0 < n) (e : q = zq9 Z) (d1 : zSs q (-3) Z X) : zLB9 d n M X := by
  obtain ⟨L, a, h⟩ := h
  obtain ⟨a1, a2, L1, a4, a3⟩ := zRc_y b c
  have l := zTL_l a3
  rw [zHx_s a.2.1] at a3
  have k := zA_o h a3
  rw [if_neg (by omega)] at k
  have hb := (zMA_b h).2.2 hn
  obtain ⟨g1, g2⟩ := zAc_s hs (zAc_c hs a a1 a2 a4 l) e d1 (by rw [List.length_append]; omega)
  exact ⟨_, g1, by rw [g2]; exact k⟩
theorem zA9_e {d n : Nat} {y : Int32} {M Y X : pvM} (hs : zRs M) (h : zLB9 d n M Y) (b : zRb (zTsg 124) (some (pvI y)) Y X) (c : y = 0) : zRc (zTA d) (some (pvI 1)) M X := by
  obtain ⟨L, a, h⟩ := h
  obtain ⟨a1, a2, a3⟩ := zRb_n b c
  obtain ⟨e1, e2⟩ := zTsg_n a3
  rw [zHx_s a.2.1] at e1
  have g := zAc_k hs a a1 a2 (by omega)
  exact ⟨a1, g.2.1, true, L, rfl, fun _ => g.2.2.1, by rw [e2]; exact zA_e h e1⟩
theorem zA9_s {d n : Nat} {y : Int32} {M Y X : pvM} (hs : zRs M) (h : zLB9 d n M Y) (b : zRb (zTsg 124) (some (pvI y)) Y X) (c : ¬ y = 0) : zLA9 d (n + 1) M X := by
  obtain ⟨L, a, h⟩ := h
  obtain ⟨a1, a2, a3⟩ := zRb_y b c
  obtain ⟨e1, e2⟩ := zTsg_y a3
  rw [zHx_s a.2.1] at e1
  exact ⟨L, zAc_k hs a a1 a2 (by omega), by rw [e2]; exact zA_s h e1⟩
