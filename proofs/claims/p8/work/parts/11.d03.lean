/-! the class's reader, by signs -/
def zs9 (M : pvM) (p : Nat) : Int32 := if (p : Int) < (M.1 6 1).toInt then M.1 7 p else -1
def zP9 (M : pvM) : Nat := Int32.toNatClampNeg (M.1 6 2)
def zRq (M : pvM) : Prop := (0 ≤ (M.1 6 2).toInt ∧ (M.1 6 2).toInt ≤ 100) ∧ M.1 6 3 = zs9 M (zP9 M)
theorem zs9_k {M X : pvM} (h1 : X.1 6 1 = M.1 6 1) (h7 : ∀ i : Nat, X.1 7 i = M.1 7 i) : zs9 X = zs9 M := by
  funext p
  unfold zs9
  rw [h1, h7]
/-- all but the reader's place and sign stays -/
def zKh (M X : pvM) : Prop := X.1 6 1 = M.1 6 1 ∧ X.1 6 4 = M.1 6 4 ∧ ∀ a b : Nat, 7 ≤ a → X.1 a b = M.1 a b
theorem zKh_r (M : pvM) : zKh M M := ⟨rfl, rfl, fun _ _ _ => rfl⟩
theorem zKh_t {M Y X : pvM} (h : zKh M Y) (k : zKh Y X) : zKh M X := ⟨k.1.trans h.1, k.2.1.trans h.2.1, fun a b z => (k.2.2 a b z).trans (h.2.2 a b z)⟩
theorem zKh_s {M X : pvM} (h : zKh M X) : zs9 X = zs9 M := zs9_k h.1 (fun i => h.2.2 7 i (Nat.le_refl _))
theorem zKh_u {M X : pvM} {k : Nat} {v : Int32} (e : X = pvu M 6 k v) (h1 : 1 ≠ k) (h4 : 4 ≠ k) : zKh M X := ⟨pvu_n e 6 1 (Or.inr h1), pvu_n e 6 4 (Or.inr h4), fun a b z => pvu_n e a b (Or.inl (by omega))⟩
def zlow (L : List (Nat × Nat × Nat)) : Bool := L.all fun a => Nat.beq a.1 0 && Nat.ble a.2.1 6
theorem zlow_p {L : List (Nat × Nat × Nat)} (h : zlow L = true) {a : Nat} (ha : 7 ≤ a) (b : Nat) : pvfp L a b = false := by
  unfold pvfp
  rw [List.any_eq_false]
  intro x hx hb
  unfold zlow at h
  rw [List.all_eq_true] at h
  have h1 := h x hx
  rw [Bool.and_eq_true] at h1
  unfold pvfa at hb
  rw [Bool.and_eq_true, h1.1, cond_true] at hb
  have h2 := Nat.eq_of_beq_eq_true hb.1
  have h3 := Nat.le_of_ble_eq_true h1.2
  omega
theorem zKh_f {L : List (Nat × Nat × Nat)} {M X : pvM} (hf : pvFr (pvfp L) M X) (hl : zlow L = true) (h1 : pvfp L 6 1 = false) (h4 : pvfp L 6 4 = false) : zKh M X := ⟨hf 6 1 h1, hf 6 4 h4, fun a b z => hf a b (zlow_p hl z b)⟩
theorem zRq_k {M X : pvM} (h : zRq M) (h1 : X.1 6 1 = M.1 6 1) (h2 : X.1 6 2 = M.1 6 2) (h3 : X.1 6 3 = M.1 6 3) (h7 : ∀ i : Nat, X.1 7 i = M.1 7 i) : zRq X := by
  unfold zRq zP9
  rw [zs9_k h1 h7, h2, h3]
  exact h
def zGo (M X : pvM) : Prop := zRq X ∧ X.1 6 2 = M.1 6 2 + 1 ∧ zKh M X
theorem zGo_e {M Y X : pvM} (hr : (-1) ≤ (M.1 6 2).toInt ∧ (M.1 6 2).toInt ≤ 99) (e1 : Y = pvu M 6 2 (M.1 6 2 + 1)) (c : Y.1 6 1 ≤ Y.1 6 2) (e2 : X = pvu Y 6 3 (-1)) : zGo M X := by
  have u1 : (1 : Int32).toInt = 1 := by decide
  have a1 : Y.1 6 2 = M.1 6 2 + 1 := pvu_s e1
  have a2 : X.1 6 2 = Y.1 6 2 := pvu_n e2 6 2 (Or.inr (by decide))
  have a3 : X.1 6 1 = Y.1 6 1 := pvu_n e2 6 1 (Or.inr (by decide))
  have s1 : (M.1 6 2 + 1).toInt = (M.1 6 2).toInt + 1 := by rw [zadd _ _ (by rw [u1]; omega) (by rw [u1]; omega), u1]
  rw [zi_le, a1, s1] at c
  refine ⟨⟨by rw [a2, a1, s1]; omega, ?_⟩, by rw [a2, a1], zKh_t (zKh_u e1 (by decide) (by decide)) (zKh_u e2 (by decide) (by decide))⟩
  unfold zs9 zP9
  rw [if_neg]
  · exact pvu_s e2
  · rw [a2, a3, a1]
    show ¬ (((M.1 6 2 + 1).toInt.toNat : Nat) : Int) < _
    omega
theorem zGo_t {M Y X : pvM} (hr : (-1) ≤ (M.1 6 2).toInt ∧ (M.1 6 2).toInt ≤ 99) (e1 : Y = pvu M 6 2 (M.1 6 2 + 1)) (c : ¬ Y.1 6 1 ≤ Y.1 6 2) (e2 : X = pvu Y 6 3 (Y.1 7 (Int32.toNatClampNeg (Y.1 6 2)))) : zGo M X := by
  have u1 : (1 : Int32).toInt = 1 := by decide
  have a1 : Y.1 6 2 = M.1 6 2 + 1 := pvu_s e1
  have a2 : X.1 6 2 = Y.1 6 2 := pvu_n e2 6 2 (Or.inr (by decide))
  have a3 : X.1 6 1 = Y.1 6 1 := pvu_n e2 6 1 (Or.inr (by decide))
  have s1 : (M.1 6 2 + 1).toInt = (M.1 6 2).toInt + 1 := by rw [zadd _ _ (by rw [u1]; omega) (by rw [u1]; omega), u1]
  rw [zi_le, a1, s1] at c
  refine ⟨⟨by rw [a2, a1, s1]; omega, ?_⟩, by rw [a2, a1], zKh_t (zKh_u e1 (by decide) (by decide)) (zKh_u e2 (by decide) (by decide))⟩
  unfold zs9 zP9
  rw [if_pos]
  · rw [a2, pvu_n e2 7 _ (Or.inl (by decide))]
    exact pvu_s e2
  · rw [a2, a3, a1]
    show (((M.1 6 2 + 1).toInt.toNat : Nat) : Int) < _
    omega
theorem zGo_p {M X : pvM} (g : zGo M X) (h0 : 0 ≤ (M.1 6 2).toInt) (h1 : (M.1 6 2).toInt ≤ 100) : zP9 X = zP9 M + 1 := by
  have u1 : (1 : Int32).toInt = 1 := by decide
  unfold zP9
  rw [g.2.1]
  show (M.1 6 2 + 1).toInt.toNat = (M.1 6 2).toInt.toNat + 1
  rw [zadd _ _ (by rw [u1]; omega) (by rw [u1]; omega), u1]
  omega
/-- a reading that says yes or no -/
def zRb (T : (Nat → Int32) → Nat → Bool → Nat → Prop) (r : Option pvV) (M X : pvM) : Prop := zRq X ∧ zKh M X ∧ ∃ b : Bool, r = some (pvI (bif b then 1 else 0)) ∧ T (zs9 M) (zP9 M) b (zP9 X)
theorem zRb_y {T : (Nat → Int32) → Nat → Bool → Nat → Prop} {x : Int32} {M X : pvM} (h : zRb T (some (pvI x)) M X) (c : ¬ x = 0) : zRq X ∧ zKh M X ∧ T (zs9 M) (zP9 M) true (zP9 X) := by
  obtain ⟨a, b, t, e, k⟩ := h
  have e : x = bif t then 1 else 0 := Sum.inl.inj (Option.some.inj e)
  cases t
  · exact absurd e c
  · exact ⟨a, b, k⟩
theorem zRb_n {T : (Nat → Int32) → Nat → Bool → Nat → Prop} {x : Int32} {M X : pvM} (h : zRb T (some (pvI x)) M X) (c : x = 0) : zRq X ∧ zKh M X ∧ T (zs9 M) (zP9 M) false (zP9 X) := by
  obtain ⟨a, b, t, e, k⟩ := h
  have e : x = bif t then 1 else 0 := Sum.inl.inj (Option.some.inj e)
  cases t
  · exact ⟨a, b, k⟩
  · rw [c] at e
    exact absurd e (by decide)
def zTsg (c : Int32) (σ : Nat → Int32) (p : Nat) (b : Bool) (q : Nat) : Prop := if σ p = c then b = true ∧ q = p + 1 else b = false ∧ q = p
theorem zTsg_y {c : Int32} {σ : Nat → Int32} {p q : Nat} (h : zTsg c σ p true q) : σ p = c ∧ q = p + 1 := by
  unfold zTsg at h
  split at h
  · next e => exact ⟨e, h.2⟩
  · exact absurd h.1 (by decide)
theorem zTsg_n {c : Int32} {σ : Nat → Int32} {p q : Nat} (h : zTsg c σ p false q) : ¬ σ p = c ∧ q = p := by
  unfold zTsg at h
  split at h
  · exact absurd h.1 (by decide)
  · next e => exact ⟨e, h.2⟩
theorem zRs_y {n1 : Int32} {M X : pvM} (hz : zRq M) (c : M.1 6 3 = n1) (g : zGo M X) : zRb (zTsg n1) (some (pvI 1)) M X := by
  refine ⟨g.1, g.2.2, true, rfl, ?_⟩
  unfold zTsg
  rw [if_pos (hz.2.symm.trans c)]
  exact ⟨rfl, zGo_p g hz.1.1 hz.1.2⟩
theorem zRs_n {n1 : Int32} {M : pvM} (hz : zRq M) (c : ¬ M.1 6 3 = n1) : zRb (zTsg n1) (some (pvI 0)) M M := by
  refine ⟨hz, zKh_r M, false, rfl, ?_⟩
  unfold zTsg
  rw [if_neg (fun e => c (hz.2.trans e))]
  exact ⟨rfl, rfl⟩
/-- a word -/
def zTw (l : List Int32) (σ : Nat → Int32) (p : Nat) (b : Bool) (q : Nat) : Prop := zwd σ l p = (b, q)
def zLw (l : List Int32) (i : Nat) (M X : pvM) : Prop := zRq X ∧ zKh M X ∧ zwd (zs9 M) l (zP9 M) = zwd (zs9 M) (l.drop i) (zP9 X)
theorem zLw_0 {l : List Int32} {M : pvM} (hz : zRq M) : zLw l (Int32.toNatClampNeg 0) M M := ⟨hz, zKh_r M, rfl⟩
theorem zLw_s {l : List Int32} {i : Nat} {x : Int32} {M Y X : pvM} (h : zLw l i M Y) (hi : i < l.length) (d : zRb (zTsg (l.getD i 0)) (some (pvI x)) Y X) (c : ¬ x = 0) : zLw l (i + 1) M X := by
  obtain ⟨a, b, e⟩ := zRb_y d c
  obtain ⟨e1, e2⟩ := zTsg_y e
  refine ⟨a, zKh_t h.2.1 b, ?_⟩
  rw [h.2.2, List.drop_eq_getElem_cons hi, e2]
  show (if _ = _ then _ else _) = _
  rw [if_pos]
  rw [← zKh_s h.2.1, e1, List.getD_eq_getElem?_getD, List.getElem?_eq_getElem hi]
  rfl
theorem zLw_n {l : List Int32} {i : Nat} {x : Int32} {M Y X : pvM} (h : zLw l i M Y) (hi : i < l.length) (d : zRb (zTsg (l.getD i 0)) (some (pvI x)) Y X) (c : x = 0) : zRb (zTw l) (some (pvI 0)) M X := by
  obtain ⟨a, b, e⟩ := zRb_n d c
  obtain ⟨e1, e2⟩ := zTsg_n e
  refine ⟨a, zKh_t h.2.1 b, false, rfl, ?_⟩
  unfold zTw
  rw [h.2.2, List.drop_eq_getElem_cons hi, e2]
  show (if _ = _ then _ else _) = _
  rw [if_neg]
  rw [← zKh_s h.2.1]
  rw [List.getD_eq_getElem?_getD, List.getElem?_eq_getElem hi] at e1
  exact e1
theorem zLw_e {l : List Int32} {i : Nat} {M X : pvM} (h : zLw l i M X) (hi : l.length ≤ i) : zRb (zTw l) (some (pvI 1)) M X := by
  refine ⟨h.1, h.2.1, true, rfl, ?_⟩
  unfold zTw
  rw [h.2.2, List.drop_eq_nil_of_le hi]
  rfl
theorem zLw_t {l : List Int32} {n n' : Nat} {M X : pvM} (e : n' = n) (h : zLw l n M X) : zLw l n' M X := e ▸ h
theorem zlen {q : Nat} (h : 1010 ≤ q ∧ q < 1017) : zsl.getD (q - 1010) 0 = (zsb.getD (q - 1010) []).length ∧ zsl.getD (q - 1010) 0 ≤ 6 := by
  obtain ⟨k, rfl⟩ : ∃ k, q = 1010 + k := ⟨q - 1010, by omega⟩
  have hk : k < 7 := by omega
  rw [Nat.add_sub_cancel_left]
  match k, hk with
  | 0, _ => decide
  | 1, _ => decide
  | 2, _ => decide
  | 3, _ => decide
  | 4, _ => decide
  | 5, _ => decide
  | 6, _ => decide
  | k + 7, z => exact absurd z (by omega)
theorem zLen_lt {q : Nat} {i : Int32} (h : 1010 ≤ q ∧ q < 1017) (h0 : 0 ≤ i.toInt) (c : ¬ nI (zsl.getD (q - 1010) 0) ≤ i) : Int32.toNatClampNeg i < (zsb.getD (q - 1010) []).length := by
  obtain ⟨a, b⟩ := zlen h
  rw [zi_le, nI_toInt (by omega)] at c
  rw [← a]
  show i.toInt.toNat < _
  omega
theorem zLen_ge {q : Nat} {i : Int32} (h : 1010 ≤ q ∧ q < 1017) (c : nI (zsl.getD (q - 1010) 0) ≤ i) : (zsb.getD (q - 1010) []).length ≤ Int32.toNatClampNeg i := by
  obtain ⟨a, b⟩ := zlen h
  rw [zi_le, nI_toInt (by omega)] at c
  rw [← a]
  show _ ≤ i.toInt.toNat
  omega
/-- one of the signs -/
def zRo (l : List Int32) (r : Option pvV) (M X : pvM) : Prop := zRq X ∧ zKh M X ∧ ∃ x : Int32, r = some (pvI x) ∧ x = (if zs9 M (zP9 M) = -1 then -1 else pvixF (zs9 M (zP9 M)) l 0) ∧ zP9 X = (if x.toInt < 0 then zP9 M else zP9 M + 1)
theorem zRo_e {l : List Int32} {M : pvM} (hz : zRq M) (c : M.1 6 3 = -1) : zRo l (some (pvI (-1))) M M := by
  refine ⟨hz, zKh_r M, -1, rfl, ?_, ?_⟩
  · rw [if_pos (hz.2.symm.trans c)]
  · rw [if_pos (by decide)]
theorem zRo_n {l : List Int32} {M : pvM} {v : Int32} (hz : zRq M) (c : ¬ M.1 6 3 = -1) (hv : v = M.1 6 3) (n : (pvixF v l 0).toInt < 0) : zRo l (some (pvI (pvixF v l 0))) M M := by
  subst hv
  refine ⟨hz, zKh_r M, _, rfl, ?_, ?_⟩
  · rw [if_neg (fun e => c (hz.2.trans e)), hz.2]
  · rw [if_pos n]
theorem zRo_y {l : List Int32} {M X : pvM} {v : Int32} (hz : zRq M) (c : ¬ M.1 6 3 = -1) (hv : v = M.1 6 3) (n : ¬ (pvixF v l 0).toInt < 0) (g : zGo M X) : zRo l (some (pvI (pvixF v l 0))) M X := by
  subst hv
  refine ⟨g.1, g.2.2, _, rfl, ?_, ?_⟩
  · rw [if_neg (fun e => c (hz.2.trans e)), hz.2]
  · rw [if_neg n]
    exact zGo_p g hz.1.1 hz.1.2
/-- a number -/
def zRn (r : Option pvV) (M X : pvM) : Prop := zRq X ∧ zKh M X ∧ zP9 X = (znu (zs9 M) (zP9 M)).2.1 ∧ ∃ x : Int32, r = some (pvI x) ∧ (if (znu (zs9 M) (zP9 M)).1 = true then x = (znu (zs9 M) (zP9 M)).2.2 ∧ 0 ≤ x.toInt else x.toInt < 0)
theorem zdig_y {c : Int32} (h1 : ¬ c < 48) (h2 : ¬ 57 < c) : zdig c = true := by
  have u1 : (48 : Int32).toInt = 48 := by decide
  have u2 : (57 : Int32).toInt = 57 := by decide
  rw [zi_lt, u1] at h1
  rw [zi_lt, u2] at h2
  unfold zdig
  rw [Bool.and_eq_true, decide_eq_true_eq, decide_eq_true_eq, zi_le, zi_le, u1, u2]
  omega
theorem zdig_n {c : Int32} (h : c < 48 ∨ 57 < c) : ¬ zdig c = true := by
  have u1 : (48 : Int32).toInt = 48 := by decide
  have u2 : (57 : Int32).toInt = 57 := by decide
  unfold zdig
  rw [Bool.and_eq_true, decide_eq_true_eq, decide_eq_true_eq, zi_le, zi_le, u1, u2]
  rw [zi_lt, zi_lt, u1, u2] at h
  omega
theorem zdig_r {c : Int32} (h : zdig c = true) : 48 ≤ c.toInt ∧ c.toInt ≤ 57 := by
  have u1 : (48 : Int32).toInt = 48 := by decide
  have u2 : (57 : Int32).toInt = 57 := by decide
  unfold zdig at h
  rw [Bool.and_eq_true, decide_eq_true_eq, decide_eq_true_eq, zi_le, zi_le, u1, u2] at h
  exact h
theorem zRn_n {M : pvM} (hz : zRq M) (c : M.1 6 3 < 48 ∨ 57 < M.1 6 3) : zRn (some (pvI (-1))) M M := by
  have k : ¬ zdig (zs9 M (zP9 M)) = true := by rw [← hz.2]; exact zdig_n c
  refine ⟨hz, zKh_r M, ?_, -1, rfl, ?_⟩
  · unfold znu
    rw [if_neg k]
  · unfold znu
    rw [if_neg k, if_neg Bool.false_ne_true]
    decide
theorem zRn_1 {M Y : pvM} (hz : zRq M) (c1 : ¬ M.1 6 3 < 48) (c2 : ¬ 57 < M.1 6 3) (g : zGo M Y) (c : Y.1 6 3 < 48 ∨ 57 < Y.1 6 3) (h0 : 0 ≤ (M.1 6 3 - 48).toInt) : zRn (some (pvI (M.1 6 3 - 48))) M Y := by
  have k := zKh_s g.2.2
  have k1 : zdig (zs9 M (zP9 M)) = true := by rw [← hz.2]; exact zdig_y c1 c2
  have p1 := zGo_p g hz.1.1 hz.1.2
  have k2 : ¬ zdig (zs9 M (zP9 M + 1)) = true := by rw [← k, ← p1, ← g.1.2]; exact zdig_n c
  refine ⟨g.1, g.2.2, ?_, _, rfl, ?_⟩
  · unfold znu
    rw [if_pos k1, if_neg k2]
    exact p1
  · unfold znu
    rw [if_pos k1, if_neg k2, if_pos rfl]
    exact ⟨by rw [hz.2], h0⟩
theorem zRn_2 {M Y X : pvM} (hz : zRq M) (c1 : ¬ M.1 6 3 < 48) (c2 : ¬ 57 < M.1 6 3) (g : zGo M Y) (d1 : ¬ Y.1 6 3 < 48) (d2 : ¬ 57 < Y.1 6 3) (g2 : zGo Y X) (h0 : 0 ≤ (((10 * (M.1 6 3 - 48)) + Y.1 6 3) - 48).toInt) : zRn (some (pvI (((10 * (M.1 6 3 - 48)) + Y.1 6 3) - 48))) M X := by
  have k := zKh_s g.2.2
  have k1 : zdig (zs9 M (zP9 M)) = true := by rw [← hz.2]; exact zdig_y c1 c2
  have p1 := zGo_p g hz.1.1 hz.1.2
  have k3 : zdig (zs9 M (zP9 M + 1)) = true := by rw [← k, ← p1, ← g.1.2]; exact zdig_y d1 d2
  have p2 := zGo_p g2 g.1.1.1 g.1.1.2
  refine ⟨g2.1, zKh_t g.2.2 g2.2.2, ?_, _, rfl, ?_⟩
  · unfold znu
    rw [if_pos k1, if_pos k3]
    show zP9 X = zP9 M + 2
    rw [p2, p1]
  · unfold znu
    rw [if_pos k1, if_pos k3, if_pos rfl]
    refine ⟨?_, h0⟩
    rw [hz.2, g.1.2, k, p1]
theorem zRn_y {x : Int32} {M X : pvM} (h : zRn (some (pvI x)) M X) (c : ¬ x.toInt < 0) : zRq X ∧ zKh M X ∧ (znu (zs9 M) (zP9 M)).1 = true ∧ zP9 X = (znu (zs9 M) (zP9 M)).2.1 ∧ x = (znu (zs9 M) (zP9 M)).2.2 := by
  obtain ⟨a, b, p, y, e, k⟩ := h
  have e : x = y := Sum.inl.inj (Option.some.inj e)
  subst e
  by_cases t : (znu (zs9 M) (zP9 M)).1 = true
  · rw [if_pos t] at k
    exact ⟨a, b, t, p, k.1⟩
  · rw [if_neg t] at k
    exact absurd k c
theorem zRn_no {x : Int32} {M X : pvM} (h : zRn (some (pvI x)) M X) (c : x.toInt < 0) : zRq X ∧ zKh M X ∧ (znu (zs9 M) (zP9 M)).1 = false ∧ zP9 X = (znu (zs9 M) (zP9 M)).2.1 := by
  obtain ⟨a, b, p, y, e, k⟩ := h
  have e : x = y := Sum.inl.inj (Option.some.inj e)
  subst e
  by_cases t : (znu (zs9 M) (zP9 M)).1 = true
  · rw [if_pos t] at k
    omega
  · exact ⟨a, b, by simpa using t, p⟩
theorem znu_r {σ : Nat → Int32} {p : Nat} (h : (znu σ p).1 = true) : (0 ≤ (znu σ p).2.2.toInt ∧ (znu σ p).2.2.toInt ≤ 99) ∧ p + 1 ≤ (znu σ p).2.1 := by
  have u48 : (48 : Int32).toInt = 48 := by decide
  have u10 : (10 : Int32).toInt = 10 := by decide
  unfold znu at h ⊢
  by_cases c : zdig (σ p) = true
  · rw [if_pos c]
    have k := zdig_r c
    have e : (σ p - 48).toInt = (σ p).toInt - 48 := by rw [zsub _ _ (by rw [u48]; omega) (by rw [u48]; omega), u48]
    by_cases c2 : zdig (σ (p + 1)) = true
    · rw [if_pos c2]
      have k2 := zdig_r c2
      have e2 : (10 * (σ p - 48)).toInt = 10 * ((σ p).toInt - 48) := by rw [zmul _ _ (by rw [u10, e]; omega) (by rw [u10, e]; omega), u10, e]
      have e3 : (10 * (σ p - 48) + σ (p + 1)).toInt = 10 * ((σ p).toInt - 48) + (σ (p + 1)).toInt := by rw [zadd _ _ (by rw [e2]; omega) (by rw [e2]; omega), e2]
      have e4 : (10 * (σ p - 48) + σ (p + 1) - 48).toInt = 10 * ((σ p).toInt - 48) + (σ (p + 1)).toInt - 48 := by rw [zsub _ _ (by rw [e3, u48]; omega) (by rw [e3, u48]; omega), e3, u48]
      exact ⟨by show 0 ≤ (10 * (σ p - 48) + σ (p + 1) - 48).toInt ∧ _; rw [e4]; omega, by show p + 1 ≤ p + 2; omega⟩
    · rw [if_neg c2]
      exact ⟨by show 0 ≤ (σ p - 48).toInt ∧ _; rw [e]; omega, by show p + 1 ≤ p + 1; omega⟩
  · rw [if_neg c] at h
    exact absurd h Bool.false_ne_true
