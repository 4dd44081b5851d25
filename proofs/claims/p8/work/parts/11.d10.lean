/-! the reference's reader, by signs -/
def zs10 (M : pvM) (p : Nat) : Int32 := if (p : Int) < (M.1 124 16).toInt then M.1 132 p else -1
def zP10 (M : pvM) : Nat := Int32.toNatClampNeg (M.1 124 17)
/-- the text stays; the place is in it, or just behind -/
def zTv (M X : pvM) : Prop := X.1 124 16 = M.1 124 16 ∧ (∀ i : Nat, X.1 132 i = M.1 132 i) ∧ ((M.1 124 17).toInt ≤ (M.1 124 16).toInt → (X.1 124 17).toInt ≤ (X.1 124 16).toInt)
theorem zTv_r (M : pvM) : zTv M M := ⟨rfl, fun _ => rfl, fun h => h⟩
theorem zTs_t {M Y X : pvM} (h : zTv M Y) (k : zTv Y X) : zTv M X := ⟨k.1.trans h.1, fun i => (k.2.1 i).trans (h.2.1 i), fun z => k.2.2 (h.2.2 z)⟩
theorem zTs_s {M X : pvM} (h : zTv M X) : zs10 X = zs10 M := by
  funext p
  unfold zs10
  rw [h.1, h.2.1]
/-- but for the place (and the digits) all stays -/
def zKr (M X : pvM) : Prop := ∀ a b : Nat, ¬ (a = 124 ∧ (b = 17 ∨ b = 18)) → X.1 a b = M.1 a b
theorem zKr_r (M : pvM) : zKr M M := fun _ _ _ => rfl
theorem zKr_t {M Y X : pvM} (h : zKr M Y) (k : zKr Y X) : zKr M X := fun a b z => (k a b z).trans (h a b z)
theorem zKr_u {M X : pvM} {k : Nat} {v : Int32} (e : X = pvu M 124 k v) (h : k = 17 ∨ k = 18) : zKr M X := fun a b z => pvu_n e a b (by
  by_cases c : a = 124
  · exact Or.inr (fun u => z ⟨c, by rw [u]; exact h⟩)
  · exact Or.inl c)
theorem zKr_T {M X : pvM} (h : zKr M X) (k : (M.1 124 17).toInt ≤ (M.1 124 16).toInt → (X.1 124 17).toInt ≤ (M.1 124 16).toInt) : zTv M X := ⟨h 124 16 (by decide), fun i => h 132 i (by omega), fun z => by rw [h 124 16 (by decide)]; exact k z⟩
theorem zpk_e {M : pvM} (hok : pvOk M) (h : M.1 124 16 ≤ M.1 124 17) : zs10 M (zP10 M) = -1 := by
  have r := pvok_r hok 124 17 (lo := 0) (hi := 100) rfl
  have e := ztn _ r.1
  rw [zi_le] at h
  unfold zs10 zP10
  exact if_neg (by omega)
theorem zpk_t {M : pvM} (hok : pvOk M) (h : ¬ M.1 124 16 ≤ M.1 124 17) : zs10 M (zP10 M) = M.1 132 (Int32.toNatClampNeg (M.1 124 17)) := by
  have r := pvok_r hok 124 17 (lo := 0) (hi := 100) rfl
  have e := ztn _ r.1
  rw [zi_le] at h
  unfold zs10 zP10
  exact if_pos (by omega)
theorem zat_1 {M X : pvM} (hok : pvOk M) (h : ¬ M.1 124 16 ≤ M.1 124 17) (e : X.1 124 17 = M.1 124 17 + 1) : zP10 X = zP10 M + 1 ∧ (X.1 124 17).toInt ≤ (M.1 124 16).toInt := by
  have r := pvok_r hok 124 17 (lo := 0) (hi := 100) rfl
  have r2 := pvok_r hok 124 16 (lo := 0) (hi := 100) rfl
  have e0 := ztn _ r.1
  rw [zi_le] at h
  have s : (X.1 124 17).toInt = (M.1 124 17).toInt + 1 := by rw [e, zadd_1 _ (by omega)]
  have e1 := ztn (X.1 124 17) (by omega)
  unfold zP10
  omega
/-- a sign, a word, a number -/
def zQb (T : (Nat → Int32) → Nat → Bool → Nat → Prop) (r : Option pvV) (M X : pvM) : Prop := zKr M X ∧ zTv M X ∧ ∃ b : Bool, r = some (pvI (bif b then 1 else 0)) ∧ T (zs10 M) (zP10 M) b (zP10 X)
theorem zQb_y {T : (Nat → Int32) → Nat → Bool → Nat → Prop} {x : Int32} {M X : pvM} (h : zQb T (some (pvI x)) M X) (c : ¬ x = 0) : zKr M X ∧ zTv M X ∧ T (zs10 M) (zP10 M) true (zP10 X) := by
  obtain ⟨a, b, t, e, k⟩ := h
  have e : x = bif t then 1 else 0 := Sum.inl.inj (Option.some.inj e)
  cases t
  · exact absurd e c
  · exact ⟨a, b, k⟩
theorem zQb_n {T : (Nat → Int32) → Nat → Bool → Nat → Prop} {x : Int32} {M X : pvM} (h : zQb T (some (pvI x)) M X) (c : x = 0) : zKr M X ∧ zTv M X ∧ T (zs10 M) (zP10 M) false (zP10 X) := by
  obtain ⟨a, b, t, e, k⟩ := h
  have e : x = bif t then 1 else 0 := Sum.inl.inj (Option.some.inj e)
  cases t
  · exact ⟨a, b, k⟩
  · rw [c] at e
    exact absurd e (by decide)
theorem zQs_e {n1 : Int32} {M : pvM} (hok : pvOk M) (hn : 0 ≤ n1.toInt ∧ n1.toInt ≤ 127) (h : M.1 124 16 ≤ M.1 124 17) : zQb (zTsg n1) (some (pvI 0)) M M := by
  refine ⟨zKr_r M, zTv_r M, false, rfl, ?_⟩
  unfold zTsg
  rw [zpk_e hok h, if_neg (fun z => by rw [← z] at hn; exact absurd hn.1 (by decide))]
  exact ⟨rfl, rfl⟩
theorem zQs_n {n1 : Int32} {M : pvM} (hok : pvOk M) (h : ¬ M.1 124 16 ≤ M.1 124 17) (c : ¬ M.1 132 (Int32.toNatClampNeg (M.1 124 17)) = n1) : zQb (zTsg n1) (some (pvI 0)) M M := by
  refine ⟨zKr_r M, zTv_r M, false, rfl, ?_⟩
  unfold zTsg
  rw [zpk_t hok h, if_neg c]
  exact ⟨rfl, rfl⟩
theorem zQs_y {n1 : Int32} {M X : pvM} (hok : pvOk M) (h : ¬ M.1 124 16 ≤ M.1 124 17) (c : M.1 132 (Int32.toNatClampNeg (M.1 124 17)) = n1) (e : X = pvu M 124 17 (M.1 124 17 + 1)) : zQb (zTsg n1) (some (pvI 1)) M X := by
  obtain ⟨a1, a2⟩ := zat_1 hok h (pvu_s e)
  refine ⟨zKr_u e (Or.inl rfl), zKr_T (zKr_u e (Or.inl rfl)) (fun _ => a2), true, rfl, ?_⟩
  unfold zTsg
  rw [zpk_t hok h, if_pos c]
  exact ⟨rfl, a1⟩
/-- the letters of the words -/
def zLet (M : pvM) : Prop := ∀ i : Nat, i < 15 → M.1 140 i = [119, 101, 116, 100, 114, 121, 115, 116, 97, 105, 114, 108, 97, 115, 116].getD i 0
def zwl (M : pvM) (a n : Nat) : List Int32 := (List.range n).map (fun k => M.1 140 (a + k)) ++ [32]
theorem zwl_l (M : pvM) (a n : Nat) : (zwl M a n).length = n + 1 := by
  unfold zwl
  rw [List.length_append, List.length_map, List.length_range]
  rfl
theorem zwl_i {M : pvM} {a n i : Nat} (h : i < n) : (zwl M a n).getD i 0 = M.1 140 (a + i) := by
  unfold zwl
  rw [List.getD_eq_getElem?_getD, List.getElem?_append_left (by rw [List.length_map, List.length_range]; exact h), List.getElem?_map, List.getElem?_range h]
  rfl
theorem zwl_n (M : pvM) (a n : Nat) : (zwl M a n).getD n 0 = 32 := by
  unfold zwl
  rw [List.getD_eq_getElem?_getD, List.getElem?_append_right (by rw [List.length_map, List.length_range]; exact Nat.le_refl _), List.length_map, List.length_range, Nat.sub_self]
  rfl
def zLv (l : List Int32) (i : Nat) (M X : pvM) : Prop := zKr M X ∧ zTv M X ∧ zwd (zs10 M) l (zP10 M) = zwd (zs10 M) (l.drop i) (zP10 X)
theorem zLv_0 {l : List Int32} {M : pvM} : zLv l (Int32.toNatClampNeg 0) M M := ⟨zKr_r M, zTv_r M, rfl⟩
theorem zLv_n {l : List Int32} {n n' : Nat} {M X : pvM} (e : n' = n) (h : zLv l n M X) : zLv l n' M X := e ▸ h
theorem zLv_s {l : List Int32} {i : Nat} {x c : Int32} {M Y X : pvM} (h : zLv l i M Y) (hi : i < l.length) (hc : l.getD i 0 = c) (d : zQb (zTsg c) (some (pvI x)) Y X) (n : ¬ x = 0) : zLv l (i + 1) M X := by
  obtain ⟨a, b, e⟩ := zQb_y d n
  obtain ⟨e1, e2⟩ := zTsg_y e
  refine ⟨zKr_t h.1 a, zTs_t h.2.1 b, ?_⟩
  rw [h.2.2, List.drop_eq_getElem_cons hi, e2]
  show (if _ = _ then _ else _) = _
  rw [if_pos]
  rw [← zTs_s h.2.1, e1, ← hc, List.getD_eq_getElem?_getD, List.getElem?_eq_getElem hi]
  rfl
theorem zLv_f {l : List Int32} {i : Nat} {x c : Int32} {M Y X : pvM} (h : zLv l i M Y) (hi : i < l.length) (hc : l.getD i 0 = c) (d : zQb (zTsg c) (some (pvI x)) Y X) (n : x = 0) : zQb (zTw l) (some (pvI 0)) M X := by
  obtain ⟨a, b, e⟩ := zQb_n d n
  obtain ⟨e1, e2⟩ := zTsg_n e
  refine ⟨zKr_t h.1 a, zTs_t h.2.1 b, false, rfl, ?_⟩
  unfold zTw
  rw [h.2.2, List.drop_eq_getElem_cons hi, e2]
  show (if _ = _ then _ else _) = _
  rw [if_neg]
  rw [← zTs_s h.2.1]
  rw [← hc, List.getD_eq_getElem?_getD, List.getElem?_eq_getElem hi] at e1
  exact e1
theorem zLv_e {l : List Int32} {i : Nat} {x : Int32} {M Y X : pvM} (h : zLv l i M Y) (hi : l.length = i + 1) (hc : l.getD i 0 = 32) (d : zQb (zTsg 32) (some (pvI x)) Y X) (hx : x = 0 ∨ x = 1) : zQb (zTw l) (some (pvI x)) M X := by
  rcases hx with rfl | rfl
  · exact zLv_f h (by omega) hc d rfl
  · have k := zLv_s h (by omega) hc d (by decide)
    refine ⟨k.1, k.2.1, true, rfl, ?_⟩
    unfold zTw
    rw [k.2.2, List.drop_eq_nil_of_le (by omega)]
    rfl
/-- a number -/
def zQn (r : Option pvV) (M X : pvM) : Prop := zKr M X ∧ zTv M X ∧ ∃ b : Bool, r = some (pvI (bif b then 1 else 0)) ∧ b = (znu (zs10 M) (zP10 M)).1 ∧ zP10 X = (znu (zs10 M) (zP10 M)).2.1 ∧ (b = true → X.1 124 18 = (znu (zs10 M) (zP10 M)).2.2)
theorem zQn_n {M : pvM} (h : ¬ zdig (zs10 M (zP10 M)) = true) : zQn (some (pvI 0)) M M := by
  refine ⟨zKr_r M, zTv_r M, false, rfl, ?_, ?_, fun z => absurd z (by decide)⟩
  · unfold znu
    rw [if_neg h]
  · unfold znu
    rw [if_neg h]
theorem zdig_e {M : pvM} (hok : pvOk M) (h : M.1 124 16 ≤ M.1 124 17) : ¬ zdig (zs10 M (zP10 M)) = true := by
  rw [zpk_e hok h]
  decide
theorem zdig_t {M : pvM} (hok : pvOk M) (h : ¬ M.1 124 16 ≤ M.1 124 17) (c : M.1 132 (Int32.toNatClampNeg (M.1 124 17)) < 48 ∨ 57 < M.1 132 (Int32.toNatClampNeg (M.1 124 17))) : ¬ zdig (zs10 M (zP10 M)) = true := by
  rw [zpk_t hok h]
  exact zdig_n c
/-- one digit more -/
def zDg (M Y X : pvM) : Prop := ∃ A : pvM, A = pvu Y 124 18 (((10 * Y.1 124 18) + Y.1 132 (Int32.toNatClampNeg (Y.1 124 17))) - 48) ∧ X = pvu A 124 17 (A.1 124 17 + 1)
theorem zQn_1 {M M0 A X : pvM} (hok : pvOk M) (h : ¬ M.1 124 16 ≤ M.1 124 17) (c1 : ¬ M.1 132 (Int32.toNatClampNeg (M.1 124 17)) < 48) (c2 : ¬ 57 < M.1 132 (Int32.toNatClampNeg (M.1 124 17))) (e0 : M0 = pvu M 124 18 0) (e1 : A = pvu M0 124 18 (((10 * M0.1 124 18) + M0.1 132 (Int32.toNatClampNeg (M0.1 124 17))) - 48)) (e2 : X = pvu A 124 17 (A.1 124 17 + 1)) : zKr M X ∧ zTv M X ∧ zP10 X = zP10 M + 1 ∧ zdig (zs10 M (zP10 M)) = true ∧ X.1 124 18 = zs10 M (zP10 M) - 48 := by
  have kr := zKr_t (zKr_t (zKr_u e0 (Or.inr rfl)) (zKr_u e1 (Or.inr rfl))) (zKr_u e2 (Or.inl rfl))
  have a17 : A.1 124 17 = M.1 124 17 := (pvu_n e1 124 17 (Or.inr (by decide))).trans (pvu_n e0 124 17 (Or.inr (by decide)))
  obtain ⟨b1, b2⟩ := zat_1 (X := X) hok h (by rw [pvu_s e2, a17])
  refine ⟨kr, zKr_T kr (fun _ => b2), b1, by rw [zpk_t hok h]; exact zdig_y c1 c2, ?_⟩
  rw [pvu_n e2 124 18 (Or.inr (by decide)), pvu_s e1, pvu_s e0, pvu_n e0 124 17 (Or.inr (by decide)), pvu_n e0 132 _ (Or.inl (by decide)), zpk_t hok h, Int32.mul_zero, Int32.zero_add]
theorem zQn_2 {M M0 A Y : pvM} (hok : pvOk M) (h : ¬ M.1 124 16 ≤ M.1 124 17) (c1 : ¬ M.1 132 (Int32.toNatClampNeg (M.1 124 17)) < 48) (c2 : ¬ 57 < M.1 132 (Int32.toNatClampNeg (M.1 124 17))) (e0 : M0 = pvu M 124 18 0) (e1 : A = pvu M0 124 18 (((10 * M0.1 124 18) + M0.1 132 (Int32.toNatClampNeg (M0.1 124 17))) - 48)) (e2 : Y = pvu A 124 17 (A.1 124 17 + 1)) (n : ¬ zdig (zs10 Y (zP10 Y)) = true) : zQn (some (pvI 1)) M Y := by
  obtain ⟨k1, k2, k3, k4, k5⟩ := zQn_1 hok h c1 c2 e0 e1 e2
  rw [zTs_s k2, k3] at n
  refine ⟨k1, k2, true, rfl, ?_, ?_, fun _ => ?_⟩ <;> unfold znu <;> rw [if_pos k4, if_neg n]
  · exact k3
  · exact k5
theorem zQn_3 {M M0 A Y B X : pvM} (hok : pvOk M) (h : ¬ M.1 124 16 ≤ M.1 124 17) (c1 : ¬ M.1 132 (Int32.toNatClampNeg (M.1 124 17)) < 48) (c2 : ¬ 57 < M.1 132 (Int32.toNatClampNeg (M.1 124 17))) (e0 : M0 = pvu M 124 18 0) (e1 : A = pvu M0 124 18 (((10 * M0.1 124 18) + M0.1 132 (Int32.toNatClampNeg (M0.1 124 17))) - 48)) (e2 : Y = pvu A 124 17 (A.1 124 17 + 1)) (hoy : pvOk Y) (hy : ¬ Y.1 124 16 ≤ Y.1 124 17) (d1 : ¬ Y.1 132 (Int32.toNatClampNeg (Y.1 124 17)) < 48) (d2 : ¬ 57 < Y.1 132 (Int32.toNatClampNeg (Y.1 124 17))) (e3 : B = pvu Y 124 18 (((10 * Y.1 124 18) + Y.1 132 (Int32.toNatClampNeg (Y.1 124 17))) - 48)) (e4 : X = pvu B 124 17 (B.1 124 17 + 1)) : zQn (some (pvI 1)) M X := by
  obtain ⟨k1, k2, k3, k4, k5⟩ := zQn_1 hok h c1 c2 e0 e1 e2
  have kr := zKr_t (zKr_u e3 (Or.inr rfl)) (zKr_u e4 (Or.inl rfl))
  obtain ⟨b1, b2⟩ := zat_1 (X := X) hoy hy (by rw [pvu_s e4, pvu_n e3 124 17 (Or.inr (by decide))])
  have y : zs10 Y (zP10 Y) = zs10 M (zP10 M + 1) := by rw [zTs_s k2, k3]
  have k6 : zdig (zs10 M (zP10 M + 1)) = true := by rw [← y, zpk_t hoy hy]; exact zdig_y d1 d2
  refine ⟨zKr_t k1 kr, zTs_t k2 (zKr_T kr (fun _ => b2)), true, rfl, ?_, ?_, fun _ => ?_⟩ <;> unfold znu <;> rw [if_pos k4, if_pos k6]
  · show zP10 X = zP10 M + 2
    rw [b1, k3]
  · rw [pvu_n e4 124 18 (Or.inr (by decide)), pvu_s e3, k5, ← zpk_t hoy hy, y]
