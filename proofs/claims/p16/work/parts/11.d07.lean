/-! the walk of the reference -/
def yP0 (M : pvM) : yWp := fun w => (M.1 125 w, M.1 129 w, M.1 127 w, M.1 128 w, M.1 131 w)
def yst0 (M : pvM) : Int := (zlO M 2 2).toInt
theorem zlO_h {M X : pvM} (h : ∀ q : Nat, q ≠ 143 → X.1 q = M.1 q) (w d : Int32) : zlO X w d = zlO M w d := by
  have e : ∀ a k, zL10 X w d a k = zL10 M w d a k := by
    intro a k
    induction k with
    | zero => rfl
    | succ k ih =>
      show (if X.1 134 (a + k) = w then X.1 135 (a + k) else zL10 X w d a k) = (if M.1 134 (a + k) = w then M.1 135 (a + k) else zL10 M w d a k)
      rw [ih, h 134 (by decide), h 135 (by decide)]
  unfold zlO zfi
  rw [h 124 (by decide), e, h 133 (by decide)]
theorem y0_n {M X : pvM} {a : Nat} {s0 : yWs} {m f r i i' : Int32} (h : yGI 143 (yP0 M) (yst0 M) (ypa M 144) M X a s0 m f r i) (h0 : 0 ≤ i.toInt) (h2 : i'.toInt = i.toInt + 1) (c : ¬ X.1 131 (Int32.toNatClampNeg (X.1 144 (Int32.toNatClampNeg i))) = 0) : yGI 143 (yP0 M) (yst0 M) (ypa M 144) M X a s0 m f r i' := by
  refine yGI_n h h0 h2 ?_
  rw [h.1 144 (by decide), h.1 131 (by decide)] at c
  exact c
theorem yTm_2 {k t x : Int32} (c : k = 1 ∨ k = 4) (hx : x.toInt = 2 * t.toInt) : x.toInt = zTm k t := by
  unfold zTm
  rw [if_pos c, hx]
theorem yTm_1 {k t : Int32} (c1 : ¬ k = 1) (c4 : ¬ k = 4) : t.toInt = zTm k t := by
  unfold zTm
  rw [if_neg (fun z => z.elim c1 c4)]
theorem y0_y {M X Y : pvM} {a : Nat} {s0 : yWs} {m f r i i' x t v : Int32} (h : yGI 143 (yP0 M) (yst0 M) (ypa M 144) M X a s0 m f r i) (h0 : 0 ≤ i.toInt) (h2 : i'.toInt = i.toInt + 1) (c : X.1 131 (Int32.toNatClampNeg (X.1 144 (Int32.toNatClampNeg i))) = 0) (e : Y = pvu X 143 (Int32.toNatClampNeg (X.1 144 (Int32.toNatClampNeg i))) v) (d : x.toInt = zWy (zlO X 2 2).toInt (X.1 127 (Int32.toNatClampNeg (X.1 144 (Int32.toNatClampNeg i)))).toInt (X.1 128 (Int32.toNatClampNeg (X.1 144 (Int32.toNatClampNeg i)))).toInt f.toInt r.toInt) (dt : t.toInt = zTm (X.1 125 (Int32.toNatClampNeg (X.1 144 (Int32.toNatClampNeg i)))) (X.1 129 (Int32.toNatClampNeg (X.1 144 (Int32.toNatClampNeg i))))) (hs : v.toInt = m.toInt + (x.toInt + t.toInt)) : yGI 143 (yP0 M) (yst0 M) (ypa M 144) M Y a s0 v (Y.1 127 (Int32.toNatClampNeg (X.1 144 (Int32.toNatClampNeg i)))) (Y.1 128 (Int32.toNatClampNeg (X.1 144 (Int32.toNatClampNeg i)))) i' := by
  rw [pvu_n e 127 _ (Or.inl (by decide)), pvu_n e 128 _ (Or.inl (by decide))]
  rw [zlO_h h.1, h.1 127 (by decide), h.1 128 (by decide)] at d
  rw [h.1 125 (by decide), h.1 129 (by decide)] at dt
  rw [h.1 131 (by decide)] at c
  rw [h.1 127 (by decide), h.1 128 (by decide)]
  rw [h.1 144 (by decide)] at c e d dt ⊢
  exact yGI_y h h0 h2 c e rfl (by rw [hs, d, dt]; rfl) rfl rfl
def yG0 (n1 n2 n3 : Int32) (r : Option pvV) (M X : pvM) : Prop := (∀ q : Nat, q ≠ 143 → X.1 q = M.1 q) ∧ ∃ x : Int32, r = some (pvI x) ∧ ∀ s : yWs, s = ywk (yP0 M) (yst0 M) (ypa M 144) (Int32.toNatClampNeg n1) (n3.toInt, M.1 124 5, M.1 124 6, fun w => (M.1 143 w).toInt) (Int32.toNatClampNeg n2 - Int32.toNatClampNeg n1) → x.toInt = s.1 ∧ ∀ w : Nat, (X.1 143 w).toInt = s.2.2.2 w
theorem yG0_i {M X : pvM} {n1 n2 n3 m f r i : Int32} (h : yGI 143 (yP0 M) (yst0 M) (ypa M 144) M X (Int32.toNatClampNeg n1) (n3.toInt, M.1 124 5, M.1 124 6, fun w => (M.1 143 w).toInt) m f r i) (h0 : 0 ≤ n1.toInt) (h02 : 0 ≤ n2.toInt) (hi : 0 ≤ i.toInt) (b : i.toInt ≤ max n1.toInt n2.toInt) (e : n2.toInt ≤ i.toInt) : yG0 n1 n2 n3 (some (pvI m)) M X := by
  obtain ⟨h1, h3, h4⟩ := h
  have t := ycl h0
  have t2 := ycl h02
  have ti := ycl hi
  refine ⟨h1, m, rfl, fun s hs => ?_⟩
  rw [show Int32.toNatClampNeg n2 - Int32.toNatClampNeg n1 = Int32.toNatClampNeg i - Int32.toNatClampNeg n1 by omega, ← h4] at hs
  subst hs
  exact ⟨rfl, fun _ => rfl⟩
/-! both walks end alike -/
def yro (a b : Int) : Prop := a = b ∨ (a = 0 ∧ b = -1) ∨ (a = 1000000 ∧ b = 99999)
theorem yro_m {a b m : Int} (h : yro a b) (h0 : 0 ≤ m) (h1 : m < 99999) : m < a ↔ m < b := by
  rcases h with h | ⟨h, k⟩ | ⟨h, k⟩ <;> omega
theorem yro_sh {a b : Int32} (h : yro a.toInt b.toInt) : ysh a b := by
  have u0 : (0 : Int32).toInt = 0 := by decide
  have u1 : (-1 : Int32).toInt = -1 := by decide
  have u2 : (1000000 : Int32).toInt = 1000000 := by decide
  have u3 : (99999 : Int32).toInt = 99999 := by decide
  rcases h with h | ⟨h, k⟩ | ⟨h, k⟩
  · exact Or.inl ((zi_eq _ _).mpr h)
  · exact Or.inr (Or.inl ⟨(zi_eq _ _).mpr (by omega), (zi_eq _ _).mpr (by omega)⟩)
  · exact Or.inr (Or.inr ⟨(zi_eq _ _).mpr (by omega), (zi_eq _ _).mpr (by omega)⟩)
theorem yro_0 {a b x y : Int32} (h : x = y) (ha : a = if x = 0 then 1000000 else 0) (hb : b = if y = 0 then 99999 else -1) : yro a.toInt b.toInt := by
  subst h
  have u0 : (0 : Int32).toInt = 0 := by decide
  have u1 : (-1 : Int32).toInt = -1 := by decide
  have u2 : (1000000 : Int32).toInt = 1000000 := by decide
  have u3 : (99999 : Int32).toInt = 99999 := by decide
  by_cases c : x = 0
  · rw [if_pos c] at ha hb
    rw [ha, hb]
    exact Or.inr (Or.inr ⟨u2, u3⟩)
  · rw [if_neg c] at ha hb
    rw [ha, hb]
    exact Or.inr (Or.inl ⟨u0, u1⟩)
def yse (W : Nat) (s t : yWs) : Prop := s.1 = t.1 ∧ s.2.1 = t.2.1 ∧ s.2.2.1 = t.2.2.1 ∧ ∀ w : Nat, w < W → yro (s.2.2.2 w) (t.2.2.2 w)
theorem yse_1 {W w : Nat} {P Q : yWp} {st : Int} {s t : yWs} (h : yse W s t) (e : P w = Q w) : yse W (yw1 P st s w) (yw1 Q st t w) := by
  obtain ⟨h1, h2, h3, h4⟩ := h
  unfold yw1
  rw [e, h1, h2, h3]
  by_cases c : (Q w).2.2.2.2 = 0
  · rw [if_pos c, if_pos c]
    refine ⟨rfl, rfl, rfl, fun v hv => ?_⟩
    show yro (if v = w then _ else s.2.2.2 v) (if v = w then _ else t.2.2.2 v)
    by_cases d : v = w
    · rw [if_pos d, if_pos d]; exact Or.inl rfl
    · rw [if_neg d, if_neg d]; exact h4 v hv
  · rw [if_neg c, if_neg c]
    exact ⟨h1, h2, h3, h4⟩
theorem yse_k {W : Nat} {P Q : yWp} {st : Int} {p q : Nat → Nat} {a b : Nat} {s t : yWs} (h : yse W s t) : ∀ {n : Nat}, (∀ i : Nat, i < n → p (a + i) = q (b + i) ∧ P (p (a + i)) = Q (p (a + i))) → yse W (ywk P st p a s n) (ywk Q st q b t n)
  | 0, _ => h
  | n + 1, g => by
    show yse W (yw1 P st (ywk P st p a s n) (p (a + n))) (yw1 Q st (ywk Q st q b t n) (q (b + n)))
    rw [← (g n (by omega)).1]
    exact yse_1 (yse_k h (fun i hi => g i (by omega))) (g n (by omega)).2
/-- the first of a book that is SHUT too late -/
def ylk (sh : Nat → Int) (who at_ : Nat → Int32) : Nat → Nat → Int32
  | _, 0 => -5
  | i, n + 1 => if (at_ i).toInt < sh (Int32.toNatClampNeg (who i)) then nI i else ylk sh who at_ (i + 1) n
theorem ylk_e {sh sh' : Nat → Int} {who who' at_ at' : Nat → Int32} : ∀ {n i : Nat}, (∀ k : Nat, i ≤ k → k < i + n → who k = who' k ∧ at_ k = at' k ∧ ((at_ k).toInt < sh (Int32.toNatClampNeg (who k)) ↔ (at_ k).toInt < sh' (Int32.toNatClampNeg (who k)))) → ylk sh who at_ i n = ylk sh' who' at' i n
  | 0, _, _ => rfl
  | n + 1, i, h => by
    obtain ⟨a, b, c⟩ := h i (by omega) (by omega)
    show (if _ then _ else _) = (if _ then _ else _)
    rw [← a, ← b, ylk_e (n := n) (i := i + 1) (fun k h1 h2 => h k (by omega) (by omega))]
    by_cases z : (at_ i).toInt < sh (Int32.toNatClampNeg (who i))
    · rw [if_pos z, if_pos (c.mp z)]
    · rw [if_neg z, if_neg (fun u => z (c.mpr u))]
/-! the round as a path, the reference -/
def yLPI (M X : pvM) (k : Int32) : Prop := (∀ a b : Nat, a ≠ 144 → (a ≠ 124 ∨ b ≠ 35) → X.1 a b = M.1 a b) ∧ X.1 124 35 = M.1 124 37 ∧ ∀ j : Nat, j < Int32.toNatClampNeg k → X.1 144 j = M.1 145 j
theorem yLPI_0 {M X : pvM} (e : X = pvu M 124 35 (M.1 124 37)) : yLPI M X 0 := ⟨fun a b _ h => pvu_n e a b h, pvu_s e, fun j h => by rw [ycl0] at h; exact absurd h (by omega)⟩
theorem yLPI_s {M Y X : pvM} {k k' : Int32} (h : yLPI M Y k) (h0 : 0 ≤ k.toInt) (h2 : k'.toInt = k.toInt + 1) (e : X = pvu Y 144 (Int32.toNatClampNeg k) (Y.1 145 (Int32.toNatClampNeg k))) : yLPI M X k' := by
  have t := ycl h0
  have t2 := ycl (x := k') (by omega)
  refine ⟨fun a b h1 h3 => (pvu_n e a b (Or.inl h1)).trans (h.1 a b h1 h3), (pvu_n e 124 35 (Or.inl (by decide))).trans h.2.1, fun j hj => ?_⟩
  by_cases c : j = Int32.toNatClampNeg k
  · subst c
    exact (pvu_s e).trans (h.1 145 _ (by decide) (Or.inl (by decide)))
  · exact (pvu_n e 144 j (Or.inr c)).trans (h.2.2 j (by omega))
def yLP (M X : pvM) : Prop := (∀ a b : Nat, a ≠ 144 → (a ≠ 124 ∨ b ≠ 35) → X.1 a b = M.1 a b) ∧ X.1 124 35 = M.1 124 37 ∧ ∀ j : Nat, j < 7 → X.1 144 j = M.1 145 j
theorem yLPI_e {M X : pvM} {k : Int32} (h : yLPI M X k) (h7 : 7 ≤ k.toInt) : yLP M X := ⟨h.1, h.2.1, fun j hj => h.2.2 j (by have := ycl (x := k) (by omega); omega)⟩
/-! looked: the first of the book that is SHUT too late -/
def yka (X : pvM) (sp wp np n : Nat) : Int32 := ylk (fun w => (X.1 sp w).toInt) (X.1 wp) (X.1 np) 0 n
def yki (X : pvM) (sp wp np : Nat) (n i : Int32) : Prop := yka X sp wp np (Int32.toNatClampNeg n) = ylk (fun w => (X.1 sp w).toInt) (X.1 wp) (X.1 np) (Int32.toNatClampNeg i) (Int32.toNatClampNeg n - Int32.toNatClampNeg i)
theorem yki_0 (X : pvM) (sp wp np : Nat) (n : Int32) : yki X sp wp np n 0 := by
  unfold yki
  rw [ycl0]; rfl
theorem yki_s {X : pvM} {sp wp np : Nat} {n i i' : Int32} (h : yki X sp wp np n i) (h0 : 0 ≤ i.toInt) (h1 : i.toInt < n.toInt) (h2 : i'.toInt = i.toInt + 1) (c : (X.1 sp (Int32.toNatClampNeg (X.1 wp (Int32.toNatClampNeg i)))) ≤ (X.1 np (Int32.toNatClampNeg i))) : yki X sp wp np n i' := by
  have t := ycl h0
  have t2 := ycl (x := i') (by omega)
  have tn := ycl (x := n) (by omega)
  have c2 := (zi_le _ _).mp c
  unfold yki at h ⊢
  rw [h, show Int32.toNatClampNeg n - Int32.toNatClampNeg i = (Int32.toNatClampNeg n - Int32.toNatClampNeg i') + 1 by omega, show Int32.toNatClampNeg i' = Int32.toNatClampNeg i + 1 by omega]
  show (if _ then _ else _) = _
  rw [if_neg (show ¬ (X.1 np (Int32.toNatClampNeg i)).toInt < (X.1 sp (Int32.toNatClampNeg (X.1 wp (Int32.toNatClampNeg i)))).toInt from by omega)]
theorem yki_y {X : pvM} {sp wp np : Nat} {n i : Int32} (h : yki X sp wp np n i) (h0 : 0 ≤ i.toInt) (h1 : i.toInt < n.toInt) (c : ¬ (X.1 sp (Int32.toNatClampNeg (X.1 wp (Int32.toNatClampNeg i)))) ≤ (X.1 np (Int32.toNatClampNeg i))) : i = yka X sp wp np (Int32.toNatClampNeg n) := by
  have t := ycl h0
  have b := zbnd i
  have tn := ycl (x := n) (by omega)
  have c2 := (not_congr (zi_le _ _)).mp c
  unfold yki at h
  rw [h, show Int32.toNatClampNeg n - Int32.toNatClampNeg i = (Int32.toNatClampNeg n - Int32.toNatClampNeg i - 1) + 1 by omega]
  show _ = (if _ then _ else _)
  rw [if_pos (show (X.1 np (Int32.toNatClampNeg i)).toInt < (X.1 sp (Int32.toNatClampNeg (X.1 wp (Int32.toNatClampNeg i)))).toInt from by omega)]
  exact (zi_eq _ _).mpr (by rw [nI_toInt (by omega)]; omega)
theorem yki_e {X : pvM} {sp wp np : Nat} {n i : Int32} (h : yki X sp wp np n i) (h1 : n.toInt ≤ i.toInt) : (-5 : Int32) = yka X sp wp np (Int32.toNatClampNeg n) := by
  unfold yki at h
  rw [h, show Int32.toNatClampNeg n - Int32.toNatClampNeg i = 0 by show n.toInt.toNat - i.toInt.toNat = 0; omega]
  rfl
/-- from now on, her round gone, and the answer; on both sides -/
def yk9 (r : Option pvV) (M X : pvM) : Prop := r = some (pvI (yka X 12 112 120 (Int32.toNatClampNeg (X.1 104 0)))) ∧ ∃ (Y : pvM) (e : Option pvV), yBN M Y ∧ yGA 100 0 (Y.1 100 0) ((Y.1 8 4) + 0) e Y X
def yk0 (r : Option pvV) (M X : pvM) : Prop := r = some (pvI (yka X 143 149 150 (Int32.toNatClampNeg (X.1 124 43)))) ∧ ∃ (Y Z : pvM) (e : Option pvV), yLP M Y ∧ yOn Y Z ∧ yG0 0 (Z.1 124 35) (Z.1 124 1) e Z X
/-! rows told by hand, of both sides; the WINDOWS that they name are there -/
def zNt (M X : pvM) : Prop := True
theorem zNt_r (M : pvM) : zNt M M := trivial
theorem zNt_fr {L : List (Nat × Nat × Nat)} {M X : pvM} (hf : pvFr (pvfp L) M X) (hx : (L == L) = true) : zNt M X := trivial
/-- one comes to SEEN or the BOOK, it is emptied, or nothing is done -/
def zBk (q k a b wq wk cap : Nat) (n1 n2 : Int32) (r : Option pvV) (M X : pvM) : Prop := ∃ x : Int32, r = some (pvI x) ∧ ((x.toInt < 0 ∧ X.1 q k = M.1 q k ∧ ∀ i : Nat, X.1 a i = M.1 a i ∧ X.1 b i = M.1 b i) ∨ (x = 0 ∧ X.1 q k = 0) ∨ (0 < x.toInt ∧ zvl n1 (M.1 wq wk) ∧ (M.1 q k).toInt < cap ∧ X.1 q k = M.1 q k + 1 ∧ ∀ i : Nat, X.1 a i = (if i = Int32.toNatClampNeg (M.1 q k) then n1 else M.1 a i) ∧ X.1 b i = (if i = Int32.toNatClampNeg (M.1 q k) then n2 else M.1 b i)))
theorem zBk_n {q k a b wq wk cap : Nat} {n1 n2 x : Int32} {M : pvM} (h : x.toInt < 0) : zBk q k a b wq wk cap n1 n2 (some (pvI x)) M M := ⟨x, rfl, Or.inl ⟨h, rfl, fun _ => ⟨rfl, rfl⟩⟩⟩
theorem zBk_c {q k a b wq wk cap : Nat} {n1 n2 x : Int32} {M X : pvM} (h : x = 0) (e : X.1 q k = 0) : zBk q k a b wq wk cap n1 n2 (some (pvI x)) M X := ⟨x, rfl, Or.inr (Or.inl ⟨h, e⟩)⟩
/-- a row of the class -/
theorem zBk_9 {q a b wq wk cap : Nat} {c n1 n2 x : Int32} {M X : pvM} (hc : c.toInt = cap) (hcap : cap ≤ 100) (hl : M.1 q 0 < c) (h0 : 0 ≤ (M.1 q 0).toInt) (hv : zvl n1 (M.1 wq wk)) (ap : zAp q a b cap n1 n2 M X) (hx : X.1 q 0 = M.1 q 0 + 1) (ex : x = M.1 q 0 + 1) : zBk q 0 a b wq wk cap n1 n2 (some (pvI x)) M X := by
  have u1 : (1 : Int32).toInt = 1 := by decide
  rw [zi_lt, hc] at hl
  refine ⟨_, rfl, Or.inr (Or.inr ⟨by rw [ex, zadd _ _ (by rw [u1]; omega) (by rw [u1]; omega), u1]; omega, hv, hl, hx, fun i => ⟨(ap.1 hl).1 i, (ap.1 hl).2 i⟩⟩)⟩
/-- a row of the reference -/
theorem zBk_0 {q k a b wq wk cap : Nat} {n1 n2 x v : Int32} {M Y Z X : pvM} (ab : a ≠ b) (aq : a ≠ q) (bq : b ≠ q) (hcap : cap ≤ 100) (hr : 0 ≤ (M.1 q k).toInt ∧ (M.1 q k).toInt < cap) (hv : zvl n1 (M.1 wq wk)) (e1 : Y = pvu M a (Int32.toNatClampNeg (M.1 q k)) n1) (e2 : Z = pvu Y b (Int32.toNatClampNeg (Y.1 q k)) n2) (e3 : X = pvu Z q k v) (ev : v = M.1 q k + 1) (ex : x = M.1 q k + 1) : zBk q k a b wq wk cap n1 n2 (some (pvI x)) M X := by
  have u1 : (1 : Int32).toInt = 1 := by decide
  have c : Y.1 q k = M.1 q k := pvu_n e1 q k (Or.inl (Ne.symm aq))
  rw [c] at e2
  refine ⟨_, rfl, Or.inr (Or.inr ⟨by rw [ex, zadd _ _ (by rw [u1]; omega) (by rw [u1]; omega), u1]; omega, hv, hr.2, (pvu_s e3).trans ev, fun j => ⟨?_, ?_⟩⟩)⟩
  · rw [pvu_n e3 a j (Or.inl aq), pvu_n e2 a j (Or.inl ab)]
    by_cases d : j = Int32.toNatClampNeg (M.1 q k)
    · subst d
      rw [if_pos rfl]
      exact pvu_s e1
    · rw [if_neg d]
      exact pvu_n e1 a j (Or.inr d)
  · rw [pvu_n e3 b j (Or.inl bq)]
    by_cases d : j = Int32.toNatClampNeg (M.1 q k)
    · subst d
      rw [if_pos rfl]
      exact pvu_s e2
    · rw [if_neg d, pvu_n e2 b j (Or.inr d)]
      exact pvu_n e1 b j (Or.inl (Ne.symm ab))
/-- both rows after one has come -/
theorem zBk_a {q a b p k a' b' wq wk wp wl cap : Nat} {n1 n2 r r2 : Int32} {M Y X : pvM} (hcap : cap ≤ 100) (h : zRr q a a' cap M) (h' : zRr q b b' cap M) (h0 : 0 ≤ (M.1 q 0).toInt) (w : M.1 q 0 = M.1 p k) (er : r = r2) (g9 : zBk q 0 a b wq wk cap n1 n2 (some (pvI r)) M Y) (ka : zRk a' cap M Y) (kb : zRk b' cap M Y) (kw : Y.1 p k = M.1 p k) (g10 : zBk p k a' b' wp wl cap n1 n2 (some (pvI r2)) Y X) (k10 : zRk a cap Y X) (k11 : zRk b cap Y X) (kx : X.1 q 0 = Y.1 q 0) : zRr q a a' cap X ∧ zRr q b b' cap X := by
  subst er
  obtain ⟨x9, e9, g9⟩ := g9
  obtain ⟨x10, e10, g10⟩ := g10
  have q9 := zpI e9
  have q10 := zpI e10
  subst q9
  subst q10
  have u0 : (0 : Int32).toInt = 0 := by decide
  have u1 : (1 : Int32).toInt = 1 := by decide
  rcases g9 with ⟨a1, a2, a3⟩ | ⟨a1, a2⟩ | ⟨a1, a0, a2, a3, a4⟩
  · rcases g10 with ⟨b1, b2, b3⟩ | ⟨b1, b2⟩ | ⟨b1, b0, b2, b3, b4⟩
    · exact ⟨zRr_k h (kx.trans a2) (fun i _ => (a3 i).1) ka k10 (fun i _ => (b3 i).1), zRr_k h' (kx.trans a2) (fun i _ => (a3 i).2) kb k11 (fun i _ => (b3 i).2)⟩
    · rw [b1, u0] at a1; omega
    · omega
  · rcases g10 with ⟨b1, b2, b3⟩ | ⟨b1, b2⟩ | ⟨b1, b0, b2, b3, b4⟩
    · rw [a1, u0] at b1; omega
    · refine ⟨fun i hi hn => ?_, fun i hi hn => ?_⟩ <;> rw [kx, a2, u0] at hn <;> omega
    · rw [a1, u0] at b1; omega
  · rcases g10 with ⟨b1, b2, b3⟩ | ⟨b1, b2⟩ | ⟨b1, b0, b2, b3, b4⟩
    · omega
    · rw [b1, u0] at a1; omega
    · refine ⟨fun i hi hn => ?_, fun i hi hn => ?_⟩
      · rw [kx, a3, zadd _ _ (by rw [u1]; omega) (by rw [u1]; omega), u1] at hn
        rw [k10 i hi, (a4 i).1, (b4 i).1, kw, ← w, ka i hi]
        by_cases d : i = Int32.toNatClampNeg (M.1 q 0)
        · rw [if_pos d, if_pos d]
        · rw [if_neg d, if_neg d]
          have d2 : i ≠ (M.1 q 0).toInt.toNat := d
          exact h i hi (by omega)
      · rw [kx, a3, zadd _ _ (by rw [u1]; omega) (by rw [u1]; omega), u1] at hn
        rw [k11 i hi, (a4 i).2, (b4 i).2, kw, ← w, kb i hi]
        by_cases d : i = Int32.toNatClampNeg (M.1 q 0)
        · rw [if_pos d, if_pos d]
        · rw [if_neg d, if_neg d]
          have d2 : i ≠ (M.1 q 0).toInt.toNat := d
          exact h' i hi (by omega)
/-- what a row names is there -/
def zBd (q a w cap : Nat) (M : pvM) : Prop := ∀ i : Nat, i < cap → (i : Int) < (M.1 q 0).toInt → zvl (M.1 a i) (M.1 w 1)
theorem zvl_m {n w w' : Int32} (h : zvl n w) (k : w.toInt ≤ w'.toInt) : zvl n w' := ⟨h.1, by have := h.2; omega⟩
theorem zBd_k {q a w cap : Nat} {M Y X : pvM} (h : zBd q a w cap M) (c : X.1 q 0 = M.1 q 0) (k1 : zRk a cap M Y) (k2 : zRk a cap Y X) (l : (M.1 w 1).toInt ≤ (X.1 w 1).toInt) : zBd q a w cap X := fun i hi hn => by
  rw [c] at hn
  rw [k2 i hi, k1 i hi]
  exact zvl_m (h i hi hn) l
theorem zBd_b {q a b w cap : Nat} {n1 n2 : Int32} {r : Option pvV} {M Y X : pvM} (h : zBd q a w cap M) (h0 : 0 ≤ (M.1 q 0).toInt) (hcap : cap ≤ 100) (g : zBk q 0 a b w 1 cap n1 n2 r M Y) (k2 : zRk a cap Y X) (c : X.1 q 0 = Y.1 q 0) (l : (M.1 w 1).toInt ≤ (X.1 w 1).toInt) : zBd q a w cap X := fun i hi hn => by
  have u0 : (0 : Int32).toInt = 0 := by decide
  have u1 : (1 : Int32).toInt = 1 := by decide
  rw [c] at hn
  rw [k2 i hi]
  obtain ⟨x, ex, g⟩ := g
  rcases g with ⟨a1, a2, a3⟩ | ⟨a1, a2⟩ | ⟨a1, a0, a2, a3, a4⟩
  · rw [a2] at hn
    rw [(a3 i).1]
    exact zvl_m (h i hi hn) l
  · rw [a2, u0] at hn; omega
  · rw [a3, zadd _ _ (by rw [u1]; omega) (by rw [u1]; omega), u1] at hn
    rw [(a4 i).1]
    have t := ztn _ h0
    by_cases d : i = Int32.toNatClampNeg (M.1 q 0)
    · rw [if_pos d]; exact zvl_m a0 l
    · rw [if_neg d]; exact zvl_m (h i hi (by omega)) l
/-- what comes to the round is there -/
def zAv (n1 : Int32) (r : Option pvV) (M : pvM) : Prop := ∀ x : Int32, r = some (pvI x) → 0 < x.toInt → zvl n1 (M.1 8 1)
theorem zAv_n {n1 x : Int32} {M : pvM} (h : ¬ 0 < x.toInt) : zAv n1 (some (pvI x)) M := fun y e z => by
  have e := zpI e
  subst e
  exact absurd z h
theorem zAv_y {n1 : Int32} {r : Option pvV} {M : pvM} (h : zvl n1 (M.1 8 1)) : zAv n1 r M := fun _ _ _ => h
theorem zBd_a {q a cap : Nat} {n1 : Int32} {r : Option pvV} {M Y X : pvM} (h : zBd q a 8 cap M) (h0 : 0 ≤ (M.1 q 0).toInt) (hcap : cap ≤ 100) (g : zAd q 0 a cap n1 r M Y) (v : zAv n1 r M) (k2 : zRk a cap Y X) (c : X.1 q 0 = Y.1 q 0) (l : (M.1 8 1).toInt ≤ (X.1 8 1).toInt) : zBd q a 8 cap X := fun i hi hn => by
  have u0 : (0 : Int32).toInt = 0 := by decide
  have u1 : (1 : Int32).toInt = 1 := by decide
  rw [c] at hn
  rw [k2 i hi]
  obtain ⟨x, ex, g⟩ := g
  rcases g with ⟨a1, a2, a3⟩ | ⟨a1, a2⟩ | ⟨a1, a2, a3, a4⟩
  · rw [a2] at hn
    rw [a3 i hi]
    exact zvl_m (h i hi hn) l
  · rw [a2, u0] at hn; omega
  · rw [a3, zadd _ _ (by rw [u1]; omega) (by rw [u1]; omega), u1] at hn
    rw [a4 i hi]
    have t := ztn _ h0
    by_cases d : i = Int32.toNatClampNeg (M.1 q 0)
    · rw [if_pos d]; exact zvl_m (v x ex a1) l
    · rw [if_neg d]; exact zvl_m (h i hi (by omega)) l
theorem zBd_i {q q2 a a2 w w2 cap n : Nat} {M Y X : pvM} (h : zBd q a w cap M) (g9 : zC1 a2 a n M Y) (hn : n = Int32.toNatClampNeg (M.1 q 0)) (k2 : zRk a2 cap Y X) (c : X.1 q2 0 = M.1 q 0) (l : (M.1 w 1).toInt ≤ (X.1 w2 1).toInt) : zBd q2 a2 w2 cap X := fun i hi hl => by
  rw [c] at hl
  have hn : n = (M.1 q 0).toInt.toNat := hn
  rw [k2 i hi, g9 i (by omega)]
  exact zvl_m (h i hi hl) l
theorem zBd_u {q q2 a a2 w w2 cap n cq ck : Nat} {M Y X : pvM} (h : zBd q a w cap M) (h2 : zBd q2 a2 w2 cap M) (g9 : zU1 cq ck a a2 n M Y) (hn : n = Int32.toNatClampNeg (M.1 q2 0)) (k2 : zRk a cap Y X) (c : M.1 cq ck = 0 → X.1 q 0 = M.1 q 0) (c2 : ¬ M.1 cq ck = 0 → X.1 q 0 = M.1 q2 0) (l : M.1 cq ck = 0 → X.1 w 1 = M.1 w 1) (l2 : ¬ M.1 cq ck = 0 → X.1 w 1 = M.1 w2 1) : zBd q a w cap X := by
  rcases g9 with ⟨a1, a3⟩ | ⟨a1, a3⟩
  · exact zBd_k h (c a1) (fun i _ => a3 i) k2 (by rw [l a1]; exact Int.le_refl _)
  · exact zBd_i h2 a3 hn k2 (c2 a1) (by rw [l2 a1]; exact Int.le_refl _)
theorem zW9_m {n1 n2 n3 n4 n5 : Int32} {M Y X : pvM} (h : zW9 n1 n2 n3 n4 n5 M Y) (c : X.1 8 1 = Y.1 8 1) : (M.1 8 1).toInt ≤ (X.1 8 1).toInt := by
  rw [c]
  rcases h with ⟨a, _⟩ | ⟨c, _, a, b, _⟩
  · rw [a]; exact Int.le_refl _
  · omega
theorem zle_e {a b : Int32} (h : b = a) : a.toInt ≤ b.toInt := by rw [h]; exact Int.le_refl _
/-! COST by what the class holds; SIDE, COMES and when each is SHUT told apart -/
def yWn (A : pvM) : Nat := Int32.toNatClampNeg (A.1 8 1)
def yla (A : pvM) : Int := (A.1 (yHp A) 1).toInt
def yox (A : pvM) (sh : Nat → Int) (n : Nat) : Nat → Int
  | 0 => 0
  | W + 1 => if W ≠ n ∧ A.1 (60 + W) 0 = 4 then max (yox A sh n W) (sh W) else yox A sh n W
def ych (A : pvM) (S : List yCl) (sd : Int32) (co : Int) (sh : Nat → Int) (w : Nat) : Int → Int := yhm (A.1 (60 + w) 0) (A.1 (60 + w) 1) sd (A.1 (60 + w + 7)) co (yla A) (fun t => yRn (yph (nI w) (A.1 (60 + w) 0) (A.1 (60 + w) 2) (A.1 (60 + w) 3) sd (nI t)) S) (sh w) (yox A sh w (yWn A))
def ysm (A : pvM) (S : List yCl) (sd : Int32) (co : Int) (sh : Nat → Int) (a : Int) (n : Nat) : Nat → Int
  | 0 => 0
  | W + 1 => ysm A S sd co sh a n W + ysg (ych A S sd co sh W) a n
def yCs (A : pvM) (S : List yCl) (sd : Int32) (co : Int) (sh : Nat → Int) : Int := ysm A S sd co sh (A.1 8 4).toInt (co + yla A - (A.1 8 4).toInt).toNat (yWn A)
theorem yWn_7 {A : pvM} (hok : pvOk A) : yWn A ≤ 7 := by
  have r := pvok_r hok 8 1 (lo := 0) (hi := 7) rfl
  have t := ycl r.1
  unfold yWn
  omega
theorem yWn_i {A : pvM} (hok : pvOk A) : (yWn A : Int) = (A.1 8 1).toInt := ycl (pvok_r hok 8 1 (lo := 0) (hi := 7) rfl).1
/-! what of the memory the class's looking ahead changes -/
def yfp (a : Nat) : Bool := a == 5 || a == 12 || a == 13 || a == 14 || (decide (50 < a) && decide (a < 60)) || a == 106 || a == 107 || a == 114 || a == 115 || a == 122 || a == 123
def yLk (M X : pvM) : Prop := ∀ a : Nat, yfp a = false → X.1 a = M.1 a
theorem yfp_p {a : Nat} (h : 59 < a) (k : a < 106) : yfp a = false := by
  unfold yfp
  simp only [Bool.or_eq_false_iff, Bool.and_eq_false_iff, beq_eq_false_iff_ne, decide_eq_false_iff_not]
  omega
theorem yfp_h {a : Nat} (h : 14 < a) (k : a < 51) : yfp a = false := by
  unfold yfp
  simp only [Bool.or_eq_false_iff, Bool.and_eq_false_iff, beq_eq_false_iff_ne, decide_eq_false_iff_not]
  omega
theorem yfp_n {a : Nat} (h : yfp a = false) : a ≠ 12 ∧ a ≠ 13 ∧ a ≠ 14 ∧ (a < 51 ∨ 59 < a) ∧ a ≠ 5 := by
  unfold yfp at h
  simp only [Bool.or_eq_false_iff, Bool.and_eq_false_iff, beq_eq_false_iff_ne, decide_eq_false_iff_not] at h
  omega
theorem yLk_r (M : pvM) : yLk M M := fun _ _ => rfl
theorem yLk_t {M Y X : pvM} (h : yLk M Y) (k : yLk Y X) : yLk M X := fun a z => (k a z).trans (h a z)
theorem yLk_s {M X : pvM} (h : yLk M X) : yLk X M := fun a z => (h a z).symm
theorem yLk_12 {M X : pvM} (h : ∀ a : Nat, a ≠ 12 → X.1 a = M.1 a) : yLk M X := fun a z => h a (yfp_n z).1
theorem yLk_B {M X : pvM} (h : yB0 M X) : yLk M X := fun a z => funext fun b => by
  obtain ⟨h1, h2, h3, h4, h5⟩ := yfp_n z
  exact h a b h1 h2 h3 h4 (Or.inl h5)
theorem yLk_T {M X : pvM} (h : yT0 M X) : yLk M X := fun a z => funext fun b => by
  obtain ⟨h1, h2, h3, h4, h5⟩ := yfp_n z
  exact h a b h2 h3 h4 (Or.inl h5)
theorem yLk_u {M X : pvM} {q k : Nat} {v : Int32} (e : X = pvu M q k v) (h : yfp q = true) : yLk M X := fun a z => funext fun b => pvu_n e a b (Or.inl (fun c => by rw [c, h] at z; exact absurd z (by decide)))
theorem pvfq_o {L : List (Nat × Nat × Nat)} (h : (L.all fun a => bif Nat.beq a.1 0 then Nat.blt a.2.1 168 else !(Nat.beq a.2.1 99)) = true) {q : Nat} (hq : 168 ≤ q) : pvfq L q = false := by
  unfold pvfq
  rw [List.any_eq_false]
  intro a ha hb
  have k := List.all_eq_true.mp h a ha
  have e : pvrl q = 99 := by
    unfold pvrl
    rw [List.getD_eq_getElem?_getD, List.getElem?_eq_none (Nat.le_trans (show pvrL2.length ≤ 168 by decide +kernel) hq)]
    rfl
  cases c : Nat.beq a.1 0 with
  | true =>
    rw [c, cond_true] at hb k
    have h1 := Nat.eq_of_beq_eq_true hb
    have h2 := Nat.blt_eq.mp k
    omega
  | false =>
    rw [c, cond_false] at hb k
    rw [e] at hb
    have h1 := Nat.eq_of_beq_eq_true hb
    rw [← h1] at k
    exact absurd k (by decide)
theorem yLk_fr {L : List (Nat × Nat × Nat)} {M X : pvM} (hf : pvFr (pvfp L) M X) (hx : ((L.all fun a => bif Nat.beq a.1 0 then Nat.blt a.2.1 168 else !(Nat.beq a.2.1 99)) && (List.range 168).all fun a => yfp a || !pvfq L a) = true) : yLk M X := fun a z => funext fun b => by
  rw [Bool.and_eq_true] at hx
  by_cases c : a < 168
  · have k := List.all_eq_true.mp hx.2 a (List.mem_range.mpr c)
    rw [z, Bool.false_or, Bool.not_eq_true'] at k
    exact hf a b (pvfq_p k b)
  · exact hf a b (pvfq_p (pvfq_o hx.1 (by omega)) b)
theorem yLk_H {M X : pvM} (k : yLk M X) : yHp X = yHp M := by
  unfold yHp
  rw [k 8 (by decide)]
theorem yLk_h {M X : pvM} (hok : pvOk M) (k : yLk M X) : X.1 (yHp X) = M.1 (yHp M) := by
  have r := yHp_r hok
  rw [yLk_H k]
  exact k _ (yfp_h (by omega) (by omega))
theorem yLk_C {M X : pvM} (hok : pvOk M) (k : yLk M X) {S : List yCl} (h : zHC M (yHp M) S) : zHC X (yHp X) S := by
  have r := yHp_r hok
  rw [yLk_H k]
  exact zHC_9 h r (fun a c h1 h2 => congrFun (k a (yfp_h (by omega) h2)) c)
theorem yLk_W {M X : pvM} (k : yLk M X) : yWn X = yWn M := by
  unfold yWn
  rw [k 8 (by decide)]
theorem yLk_a {M X : pvM} (hok : pvOk M) (k : yLk M X) : yla X = yla M := by
  unfold yla
  rw [yLk_h hok k]
theorem yLk_K {M X : pvM} (k : yLk M X) : yKs M X := ⟨congrFun (k 8 (by decide)) 1, congrFun (k 8 (by decide)) 8, fun a b h1 h2 => congrFun (k a (yfp_h (by omega) h2)) b, fun w b h1 _ => congrFun (k (60 + w) (yfp_p (by omega) (by omega))) b⟩
theorem yox_k {M X : pvM} (k : yLk M X) {sh : Nat → Int} {n : Nat} : ∀ {W : Nat}, W ≤ 7 → yox X sh n W = yox M sh n W
  | 0, _ => rfl
  | W + 1, h => by
    show (if W ≠ n ∧ X.1 (60 + W) 0 = 4 then max (yox X sh n W) (sh W) else yox X sh n W) = (if W ≠ n ∧ M.1 (60 + W) 0 = 4 then max (yox M sh n W) (sh W) else yox M sh n W)
    rw [yox_k k (W := W) (by omega), k (60 + W) (yfp_p (by omega) (by omega))]
theorem ych_k {M X : pvM} (hok : pvOk M) (k : yLk M X) {S : List yCl} {sd : Int32} {co : Int} {sh : Nat → Int} {w : Nat} (hw : w < 7) : ych X S sd co sh w = ych M S sd co sh w := by
  unfold ych
  rw [k (60 + w) (yfp_p (by omega) (by omega)), k (60 + w + 7) (yfp_p (by omega) (by omega)), yLk_a hok k, yLk_W k, yox_k k (yWn_7 hok)]
theorem ysm_k {M X : pvM} (hok : pvOk M) (k : yLk M X) {S : List yCl} {sd : Int32} {co : Int} {sh : Nat → Int} {a : Int} {n : Nat} : ∀ {W : Nat}, W ≤ 7 → ysm X S sd co sh a n W = ysm M S sd co sh a n W
  | 0, _ => rfl
  | W + 1, h => by
    show ysm X S sd co sh a n W + ysg (ych X S sd co sh W) a n = ysm M S sd co sh a n W + ysg (ych M S sd co sh W) a n
    rw [ysm_k hok k (W := W) (by omega), ych_k hok k (by omega)]
theorem yCs_k {M X : pvM} (hok : pvOk M) (k : yLk M X) {S : List yCl} {sd : Int32} {co : Int} {sh : Nat → Int} : yCs X S sd co sh = yCs M S sd co sh := by
  unfold yCs
  rw [yLk_a hok k, yLk_W k, k 8 (by decide), ysm_k hok k (yWn_7 hok)]
/-! the class's HARM and COST are these -/
theorem yod_x {M : pvM} {n : Nat} : ∀ W : Nat, yod M n W = yox M (fun v => (M.1 12 v).toInt) n W
  | 0 => rfl
  | W + 1 => by
    show (if W ≠ n ∧ M.1 (60 + W) 0 = 4 then max (yod M n W) (M.1 12 W).toInt else yod M n W) = (if W ≠ n ∧ M.1 (60 + W) 0 = 4 then max (yox M (fun v => (M.1 12 v).toInt) n W) (M.1 12 W).toInt else yox M (fun v => (M.1 12 v).toInt) n W)
    rw [yod_x W]
theorem y9h_x {M : pvM} {S : List yCl} {w : Nat} : y9h M S w = ych M S (M.1 5 1) (M.1 5 2).toInt (fun v => (M.1 12 v).toInt) w := by
  unfold y9h ych yla yWn
  rw [yod_x]
theorem yal_m {M : pvM} {S : List yCl} {a : Int} {n : Nat} : ∀ W : Nat, yal M S a n W = ysm M S (M.1 5 1) (M.1 5 2).toInt (fun v => (M.1 12 v).toInt) a n W
  | 0 => rfl
  | W + 1 => by
    show yal M S a n W + ysg (y9h M S W) a n = ysm M S (M.1 5 1) (M.1 5 2).toInt (fun v => (M.1 12 v).toInt) a n W + ysg (ych M S (M.1 5 1) (M.1 5 2).toInt (fun v => (M.1 12 v).toInt) W) a n
    rw [yal_m W, y9h_x]
/-- looking ahead from M: X is as M, its sums are right, those of its SIDE are there -/
def yLs (M X : pvM) : Prop := yLk M X ∧ (yWS M → yWS X ∧ ¬ X.1 14 (Int32.toNatClampNeg (X.1 5 1)) = 0)
theorem yCo_L {M X : pvM} {x : Int32} {S : List yCl} (hok : pvOk M) (l : yLs M X) (h : yCo X x) (hW : yWS M) (hS : zHC M (yHp M) S) : x.toInt = yCs M S (X.1 5 1) (X.1 5 2).toInt (fun v => (X.1 12 v).toInt) := by
  obtain ⟨k, l⟩ := l
  obtain ⟨l1, l2⟩ := l hW
  rw [h l1 l2 S (yLk_C hok k hS), yal_m, ← yCs_k hok k]
  rfl
/-! when each is SHUT matters only so far as it is ahead of the storm's end -/
theorem yox_e {A : pvM} {sh sh' : Nat → Int} {n : Nat} {m : Int} (hm : 0 ≤ m) : ∀ {W : Nat}, (∀ o : Nat, o < W → (m < sh o ↔ m < sh' o)) → (m < yox A sh n W ↔ m < yox A sh' n W)
  | 0, _ => Iff.rfl
  | W + 1, h => by
    have i := yox_e (A := A) (n := n) hm (W := W) (fun o ho => h o (by omega))
    show (m < if W ≠ n ∧ A.1 (60 + W) 0 = 4 then _ else _) ↔ (m < if W ≠ n ∧ A.1 (60 + W) 0 = 4 then _ else _)
    by_cases c : W ≠ n ∧ A.1 (60 + W) 0 = 4
    · rw [if_pos c, if_pos c, ylt_max, ylt_max, i, h W (by omega)]
    · rw [if_neg c, if_neg c]; exact i
theorem ych_c {A : pvM} {S : List yCl} {sd : Int32} {co : Int} {sh sh' : Nat → Int} {w : Nat} {m : Int} (hw : w < yWn A) (h : ∀ v : Nat, v < yWn A → yro (sh v) (sh' v)) (hc : co + yla A ≤ 99999) (h0 : 0 ≤ m) : ych A S sd co sh w m = ych A S sd co sh' w m := by
  by_cases z : m < 99999
  · unfold ych
    exact yhm_e (fun _ _ => rfl) (fun _ _ => rfl) (yro_m (h w hw) h0 z) (yox_e h0 (fun o ho => yro_m (h o ho) h0 z))
  · unfold ych yhm
    rw [if_neg (by omega), if_neg (by omega)]
theorem ysm_c {A : pvM} {S : List yCl} {sd : Int32} {co : Int} {sh sh' : Nat → Int} {a : Int} {n : Nat} (h : ∀ v : Nat, v < yWn A → yro (sh v) (sh' v)) (hc : co + yla A ≤ 99999) (h0 : 0 ≤ a) : ∀ {W : Nat}, W ≤ yWn A → ysm A S sd co sh a n W = ysm A S sd co sh' a n W
  | 0, _ => rfl
  | W + 1, k => by
    show ysm A S sd co sh a n W + ysg (ych A S sd co sh W) a n = ysm A S sd co sh' a n W + ysg (ych A S sd co sh' W) a n
    rw [ysm_c h hc h0 (W := W) (by omega), ysg_c (fun m h1 h2 => ych_c (by omega) h hc (by omega))]
theorem yCs_c {A : pvM} {S : List yCl} {sd : Int32} {co : Int} {sh sh' : Nat → Int} (hok : pvOk A) (h : ∀ v : Nat, v < yWn A → yro (sh v) (sh' v)) (hc : co ≤ 108) : yCs A S sd co sh = yCs A S sd co sh' := by
  have l := yhl hok
  have r := pvok_r hok 8 4 (lo := 0) (hi := 9999) rfl
  exact ysm_c h (by unfold yla; omega) r.1 (Nat.le_refl _)
/-! the walk, told by the class -/
def ysI (A : pvM) : Nat → Int := fun w => if w < 7 ∧ A.1 (60 + w) 5 = 0 then 1000000 else 0
def yW0 (A : pvM) (m : Int) : yWs := (m, A.1 8 6, A.1 8 7, ysI A)
def ywg (A : pvM) (p : Nat → Nat) (a : Nat) (s : yWs) (n : Nat) : yWs := ywk (yP9 A) (yst9 A) p a s n
def yWa (A : pvM) (p : Nat → Nat) (m : Int) (n : Nat) : yWs := ywg A p 0 (yW0 A m) n
def yCp (A : pvM) (S : List yCl) (sd : Int32) (co : Int) (p : Nat → Nat) (m : Int) (n : Nat) : Int := yCs A S sd co (yWa A p m n).2.2.2
theorem ysI_s {A : pvM} {w : Nat} (h : w < 7) : (yNs A w).toInt = ysI A w := by
  have u1 : (1000000 : Int32).toInt = 1000000 := by decide
  have u0 : (0 : Int32).toInt = 0 := by decide
  unfold yNs ysI
  by_cases c : A.1 (60 + w) 5 = 0
  · rw [if_pos c, if_pos ⟨h, c⟩, u1]
  · rw [if_neg c, if_neg (fun z => c z.2), u0]
theorem ysI_k {M X : pvM} (k : yLk M X) : ysI X = ysI M := funext fun w => by
  unfold ysI
  by_cases c : w < 7
  · rw [k (60 + w) (yfp_p (by omega) (by omega))]
  · rw [if_neg (fun z => c z.1), if_neg (fun z => c z.1)]
theorem yW0_k {M X : pvM} (k : yLk M X) (m : Int) : yW0 X m = yW0 M m := by
  unfold yW0
  rw [k 8 (by decide), ysI_k k]
theorem yP9_k {M X : pvM} (k : yLk M X) {w : Nat} (h : w < 7) : yP9 X w = yP9 M w := by
  unfold yP9
  rw [k (60 + w) (yfp_p (by omega) (by omega))]
theorem yst9_k {M X : pvM} (hok : pvOk M) (k : yLk M X) : yst9 X = yst9 M := by
  unfold yst9
  rw [yLk_h hok k]
theorem ywg_k {M X : pvM} (hok : pvOk M) (k : yLk M X) {p q : Nat → Nat} {a b : Nat} {s : yWs} {n : Nat} (h : ∀ i : Nat, i < n → p (a + i) = q (b + i) ∧ p (a + i) < 7) : ywg X p a s n = ywg M q b s n := by
  unfold ywg
  rw [yst9_k hok k]
  exact ywk_c (fun i hi => ⟨(h i hi).1, yP9_k k (h i hi).2⟩)
theorem yWa_k {M X : pvM} (hok : pvOk M) (k : yLk M X) {p q : Nat → Nat} {m : Int} {n : Nat} (h : ∀ i : Nat, i < n → p i = q i ∧ p i < 7) : yWa X p m n = yWa M q m n := by
  unfold yWa
  rw [yW0_k k, ywg_k hok k (q := q) (b := 0) (fun i hi => by rw [Nat.zero_add]; exact h i hi)]
theorem yCp_k {M X : pvM} (hok : pvOk M) (k : yLk M X) {S : List yCl} {sd : Int32} {co : Int} {p q : Nat → Nat} {m : Int} {n : Nat} (h : ∀ i : Nat, i < n → p i = q i ∧ p i < 7) : yCp X S sd co p m n = yCp M S sd co q m n := by
  unfold yCp
  rw [yCs_k hok k, yWa_k hok k h]
/-- two walks alike below W -/
def ysq (W : Nat) (s t : yWs) : Prop := s.1 = t.1 ∧ s.2.1 = t.2.1 ∧ s.2.2.1 = t.2.2.1 ∧ ∀ w : Nat, w < W → s.2.2.2 w = t.2.2.2 w
theorem ysq_1 {W w : Nat} {P Q : yWp} {st : Int} {s t : yWs} (h : ysq W s t) (e : P w = Q w) : ysq W (yw1 P st s w) (yw1 Q st t w) := by
  obtain ⟨h1, h2, h3, h4⟩ := h
  unfold yw1
  rw [e, h1, h2, h3]
  by_cases c : (Q w).2.2.2.2 = 0
  · rw [if_pos c, if_pos c]
    refine ⟨rfl, rfl, rfl, fun v hv => ?_⟩
    show (if v = w then _ else s.2.2.2 v) = (if v = w then _ else t.2.2.2 v)
    rw [h4 v hv]
  · rw [if_neg c, if_neg c]
    exact ⟨h1, h2, h3, h4⟩
theorem ysq_k {W : Nat} {P Q : yWp} {st : Int} {p q : Nat → Nat} {a b : Nat} {s t : yWs} (h : ysq W s t) : ∀ {n : Nat}, (∀ i : Nat, i < n → p (a + i) = q (b + i) ∧ P (p (a + i)) = Q (p (a + i))) → ysq W (ywk P st p a s n) (ywk Q st q b t n)
  | 0, _ => h
  | n + 1, g => by
    show ysq W (yw1 P st (ywk P st p a s n) (p (a + n))) (yw1 Q st (ywk Q st q b t n) (q (b + n)))
    rw [← (g n (by omega)).1]
    exact ysq_1 (ysq_k h (fun i hi => g i (by omega))) (g n (by omega)).2
/-- the class's walk is this one: from a state s that tells X.12 below W -/
theorem yGA_g {M Z X : pvM} {Q : Nat} {n2 n3 n4 : Int32} {r : Option pvV} {s : yWs} {p : Nat → Nat} {n : Nat} (hok : pvOk M) (k : yLk M Z) (g : yGA Q n2 n3 n4 r Z X) (hs : ysq (yWn M) (n4.toInt, M.1 8 6, M.1 8 7, fun w => (Z.1 12 w).toInt) s) (hn : (min n3.toInt (Z.1 Q 0).toInt).toNat - Int32.toNatClampNeg n2 = n) (hp : ∀ i : Nat, i < n → ypa Z (Q + 8) (Int32.toNatClampNeg n2 + i) = p (Int32.toNatClampNeg n2 + i) ∧ p (Int32.toNatClampNeg n2 + i) < 7) : (∀ q : Nat, q ≠ 12 → X.1 q = Z.1 q) ∧ ∃ x : Int32, r = some (pvI x) ∧ x.toInt = (ywg M p (Int32.toNatClampNeg n2) s n).1 ∧ ∀ w : Nat, w < yWn M → (X.1 12 w).toInt = (ywg M p (Int32.toNatClampNeg n2) s n).2.2.2 w := by
  obtain ⟨f, x, ex, h⟩ := g
  obtain ⟨h1, h2⟩ := h _ rfl
  rw [hn, k 8 (by decide), yst9_k hok k] at h1 h2
  have e := ysq_k (P := yP9 Z) (Q := yP9 M) (st := yst9 M) (p := ypa Z (Q + 8)) (q := p) (a := Int32.toNatClampNeg n2) (b := Int32.toNatClampNeg n2) hs (n := n) (fun i hi => ⟨(hp i hi).1, yP9_k k (by rw [(hp i hi).1]; exact (hp i hi).2)⟩)
  exact ⟨f, x, ex, h1.trans e.1, fun w hw => (h2 w).trans (e.2.2.2 w hw)⟩
theorem yW0_q {M Z : pvM} (hok : pvOk M) (m : Int) (h : ∀ w : Nat, w < yWn M → Z.1 12 w = yNs M w) : ysq (yWn M) (m, M.1 8 6, M.1 8 7, fun w => (Z.1 12 w).toInt) (yW0 M m) := ⟨rfl, rfl, rfl, fun w hw => by
  have := yWn_7 hok
  show (Z.1 12 w).toInt = ysI M w
  rw [h w hw]
  exact ysI_s (by omega)⟩
/-- .. from now on -/
theorem yGA_a {M Z X : pvM} {Q : Nat} {n4 : Int32} {r : Option pvV} {p : Nat → Nat} {n : Nat} (hok : pvOk M) (k : yLk M Z) (g : yGA Q 0 (Z.1 Q 0) n4 r Z X) (hs : ∀ w : Nat, w < yWn M → Z.1 12 w = yNs M w) (hn : (Z.1 Q 0).toInt.toNat = n) (hp : ∀ i : Nat, i < n → ypa Z (Q + 8) i = p i ∧ p i < 7) : (∀ q : Nat, q ≠ 12 → X.1 q = Z.1 q) ∧ ∃ x : Int32, r = some (pvI x) ∧ x.toInt = (yWa M p n4.toInt n).1 ∧ ∀ w : Nat, w < yWn M → (X.1 12 w).toInt = (yWa M p n4.toInt n).2.2.2 w := by
  have h := yGA_g (p := p) (n := n) hok k g (yW0_q hok n4.toInt hs) (by rw [Int.min_self, ycl0, Nat.sub_zero]; exact hn) (fun i hi => by rw [ycl0, Nat.zero_add]; exact hp i hi)
  rw [ycl0] at h
  exact h
/-! the reference: COST is what the class's would be, where both hold the same -/
def yf0 (a b : Nat) : Bool := a == 141 || a == 142 || a == 143 || a == 144 || a == 146 || (a == 124 && (b == 3 || b == 4 || b == 32 || b == 35))
def yL0 (M X : pvM) : Prop := ∀ a b : Nat, yf0 a b = false → X.1 a b = M.1 a b
theorem yL0_r (M : pvM) : yL0 M M := fun _ _ _ => rfl
theorem yL0_t {M Y X : pvM} (h : yL0 M Y) (k : yL0 Y X) : yL0 M X := fun a b z => (k a b z).trans (h a b z)
theorem yL0_u {M X : pvM} {q k : Nat} {v : Int32} (e : X = pvu M q k v) (h : yf0 q k = true) : yL0 M X := fun a b z => pvu_n e a b (by
  by_cases c : a = q
  · by_cases d : b = k
    · rw [c, d, h] at z; exact absurd z (by decide)
    · exact Or.inr d
  · exact Or.inl c)
theorem yf0_n {a b : Nat} (h : yf0 a b = false) : a ≠ 141 ∧ a ≠ 142 ∧ a ≠ 143 ∧ a ≠ 144 ∧ (a ≠ 124 ∨ (b ≠ 3 ∧ b ≠ 4 ∧ b ≠ 32 ∧ b ≠ 35)) := by
  unfold yf0 at h
  simp only [Bool.or_eq_false_iff, Bool.and_eq_false_iff, beq_eq_false_iff_ne] at h
  omega
theorem yf0_p {a b : Nat} (h : 124 < a) (k : a < 141) : yf0 a b = false := by
  unfold yf0
  simp only [Bool.or_eq_false_iff, Bool.and_eq_false_iff, beq_eq_false_iff_ne]
  omega
theorem yL0_p {M X : pvM} (h : yL0 M X) {a : Nat} (h1 : 124 < a) (h2 : a < 141) : X.1 a = M.1 a := funext fun b => h a b (yf0_p h1 h2)
theorem yL0_F {M X : pvM} (h : yF0 M X) : yL0 M X := fun a b z => by
  obtain ⟨h1, h2, h3, h4, h5⟩ := yf0_n z
  exact h a b h1 h2 (by omega)
theorem yL0_143 {M X : pvM} (h : ∀ a : Nat, a ≠ 143 → X.1 a = M.1 a) : yL0 M X := fun a b z => congrFun (h a (yf0_n z).2.2.1) b
theorem yL0_P {M X : pvM} (h : yLP M X) : yL0 M X := fun a b z => by
  obtain ⟨h1, h2, h3, h4, h5⟩ := yf0_n z
  exact h.1 a b h4 (by omega)
theorem zlO_0 {M X : pvM} (k : yL0 M X) (w d : Int32) : zlO X w d = zlO M w d := by
  have e : ∀ a n, zL10 X w d a n = zL10 M w d a n := by
    intro a n
    induction n with
    | zero => rfl
    | succ n ih =>
      show (if X.1 134 (a + n) = w then X.1 135 (a + n) else zL10 X w d a n) = (if M.1 134 (a + n) = w then M.1 135 (a + n) else zL10 M w d a n)
      rw [ih, yL0_p k (a := 134) (by decide) (by decide), yL0_p k (a := 135) (by decide) (by decide)]
  unfold zlO zfi
  rw [k 124 15 (by decide), e, yL0_p k (a := 133) (by decide) (by decide)]
theorem yTS_0 {M X : pvM} (k : yL0 M X) {S : List yCl} (h : yTS M S) : yTS X S := by
  unfold yTS at h ⊢
  rw [k 124 15 (by decide)]
  split
  · next c => rw [if_pos c] at h; exact h
  · next c => rw [if_neg c] at h; exact zHR_k h (fun a b h1 h2 => k a b (yf0_p (by omega) (by omega)))
/-- A is a class's memory that holds what the reference's B does, but for what is SHUT; S tells the HOUSE of both -/
def yCc (A B : pvM) (S : List yCl) : Prop := (pvOk A ∧ zHC A (yHp A) S ∧ yTS B S ∧ yGd S) ∧ A.1 8 1 = B.1 124 0 ∧ (∀ w : Nat, w < yWn A → (∀ f : Nat, f < 5 → A.1 (60 + w) f = B.1 (125 + f) w) ∧ (∀ j : Nat, j < 4 → A.1 (60 + 7 + w) j = B.1 130 (4 * w + j))) ∧ (A.1 8 4 = B.1 124 1 ∧ A.1 8 6 = B.1 124 5 ∧ A.1 8 7 = B.1 124 6) ∧ A.1 (yHp A) 0 = zlO B 2 2 ∧ A.1 (yHp A) 1 = zlO B 3 15
theorem yCc_k {A B X : pvM} {S : List yCl} (h : yCc A B S) (k : yL0 B X) : yCc A X S := by
  obtain ⟨⟨h1, h2, h3, h4⟩, h5, h6, ⟨h7, h8, h9⟩, h10, h11⟩ := h
  refine ⟨⟨h1, h2, yTS_0 k h3, h4⟩, h5.trans (k 124 0 (by decide)).symm, fun w hw => ?_, ⟨h7.trans (k 124 1 (by decide)).symm, h8.trans (k 124 5 (by decide)).symm, h9.trans (k 124 6 (by decide)).symm⟩, by rw [zlO_0 k]; exact h10, by rw [zlO_0 k]; exact h11⟩
  obtain ⟨a, b⟩ := h6 w hw
  exact ⟨fun f hf => (a f hf).trans (k _ _ (yf0_p (by omega) (by omega))).symm, fun j hj => (b j hj).trans (k _ _ (yf0_p (by decide) (by decide))).symm⟩
def yCb (A B : pvM) (S : List yCl) : Prop := yCc A B S ∧ ∀ w : Nat, w < yWn A → A.1 (60 + w) 5 = B.1 131 w
theorem yCb_k {A B X : pvM} {S : List yCl} (h : yCb A B S) (k : yL0 B X) : yCb A X S := ⟨yCc_k h.1 k, fun w hw => (h.2 w hw).trans (k _ _ (yf0_p (by decide) (by decide))).symm⟩
theorem yCb_W {A B : pvM} {S : List yCl} (h : yCc A B S) : Int32.toNatClampNeg (B.1 124 0) = yWn A := by
  unfold yWn
  rw [h.2.1]
theorem yo0_x {A B : pvM} {n : Nat} : ∀ {W : Nat}, (∀ o : Nat, o < W → A.1 (60 + o) 0 = B.1 125 o) → yo0 B n W = yox A (fun v => (B.1 143 v).toInt) n W
  | 0, _ => rfl
  | W + 1, h => by
    show (if W ≠ n ∧ B.1 125 W = 4 then max (yo0 B n W) (B.1 143 W).toInt else yo0 B n W) = (if W ≠ n ∧ A.1 (60 + W) 0 = 4 then max (yox A (fun v => (B.1 143 v).toInt) n W) (B.1 143 W).toInt else yox A (fun v => (B.1 143 v).toInt) n W)
    rw [yo0_x (fun o ho => h o (by omega)), h W (by omega)]
theorem y0h_x {A B : pvM} {S : List yCl} (h : yCc A B S) {w : Nat} (hw : w < yWn A) (m : Int) : y0h B S w m = ych A S (B.1 124 4) (B.1 124 3).toInt (fun v => (B.1 143 v).toInt) w m := by
  have e := yCb_W h
  obtain ⟨⟨h1, h2, h3, h4⟩, h5, h6, h7, h10, h11⟩ := h
  obtain ⟨a, b⟩ := h6 w hw
  have a0 : A.1 (60 + w) 0 = B.1 125 w := a 0 (by decide)
  have a1 : A.1 (60 + w) 1 = B.1 126 w := a 1 (by decide)
  have a2 : A.1 (60 + w) 2 = B.1 127 w := a 2 (by decide)
  have a3 : A.1 (60 + w) 3 = B.1 128 w := a 3 (by decide)
  unfold y0h ych yla
  rw [e, yo0_x (A := A) (fun o ho => (h6 o ho).1 0 (by decide)), ← a0, ← a1, ← h11]
  refine yhm_e (fun p hp => ?_) (fun t _ => ?_) Iff.rfl Iff.rfl
  · rw [show 60 + w + 7 = 60 + 7 + w by omega, b p hp]
    rfl
  · unfold yR0
    rw [a0, a2, a3]
theorem yat_x {A B : pvM} {S : List yCl} (h : yCc A B S) {a : Int} {n : Nat} : ∀ {W : Nat}, W ≤ yWn A → ysm A S (B.1 124 4) (B.1 124 3).toInt (fun v => (B.1 143 v).toInt) a n W = ysg (fun m => yat B S m W) a n
  | 0, _ => by
    show (0 : Int) = _
    exact (ysg_z (fun _ _ _ => rfl)).symm
  | W + 1, k => by
    show ysm A S (B.1 124 4) (B.1 124 3).toInt (fun v => (B.1 143 v).toInt) a n W + ysg (ych A S (B.1 124 4) (B.1 124 3).toInt (fun v => (B.1 143 v).toInt) W) a n = ysg (fun m => yat B S m W + y0h B S W m) a n
    rw [ysg_p (fun m => yat B S m W) (y0h B S W) a n, yat_x h (W := W) (by omega), ysg_c (fun m h1 h2 => (y0h_x h (w := W) (by omega) m).symm)]
/-- the reference's COST -/
theorem yC0_L {A B : pvM} {S : List yCl} {x : Int32} (h : yCc A B S) (l : yLaid B) (d : yC0 B x) : x.toInt = yCs A S (B.1 124 4) (B.1 124 3).toInt (fun v => (B.1 143 v).toInt) := by
  rw [d l S h.1.2.2.1 h.1.2.2.2]
  unfold yCs yatW
  rw [yCb_W h, yat_x h (Nat.le_refl _)]
  obtain ⟨h1, h5, h6, ⟨h7, h8⟩, h10, h11⟩ := h
  unfold yla
  rw [h7, h11]
/-- the rain stays laid while nothing of it changes -/
theorem yLd_k {M X : pvM} {l w : Nat} (k : yL0 M X) (k4 : X.1 124 4 = M.1 124 4) (k142 : X.1 142 = M.1 142) (h : yLd M M l w) : yLd X X l w := fun S hS hg v t hv ht => by
  have k2 : yL0 X M := fun a b z => (k a b z).symm
  rw [k142, h S (yTS_0 k2 hS) hg v t hv ht]
  unfold yR0
  rw [yL0_p k (a := 125) (by decide) (by decide), yL0_p k (a := 127) (by decide) (by decide), yL0_p k (a := 128) (by decide) (by decide), k4]
theorem yLaid_k {M X : pvM} (k : yL0 M X) (k4 : X.1 124 4 = M.1 124 4) (k142 : X.1 142 = M.1 142) (h : yLaid M) : yLaid X := by
  unfold yLaid at h ⊢
  rw [zlO_0 k, k 124 0 (by decide)]
  exact yLd_k k k4 k142 h
theorem yLR_L {M X : pvM} (h : yLR M X) : yLaid X := by
  obtain ⟨f, l⟩ := h
  have k := yL0_F f
  have k4 : X.1 124 4 = M.1 124 4 := f 124 4 (by decide) (by decide) (by decide)
  have k2 : yL0 X M := fun a b z => (k a b z).symm
  unfold yLaid
  rw [zlO_0 k, k 124 0 (by decide)]
  intro S hS hg v t hv ht
  rw [l S (yTS_0 k2 hS) hg v t hv ht]
  unfold yR0
  rw [yL0_p k (a := 125) (by decide) (by decide), yL0_p k (a := 127) (by decide) (by decide), yL0_p k (a := 128) (by decide) (by decide), k4]
/-- the reference's walk -/
theorem yP0_x {A B : pvM} {S : List yCl} (h : yCb A B S) {w : Nat} (hw : w < yWn A) : yP9 A w = yP0 B w := by
  obtain ⟨a, b⟩ := h.1.2.2.1 w hw
  unfold yP9 yP0
  rw [a 0 (by decide), a 4 (by decide), a 2 (by decide), a 3 (by decide), h.2 w hw]
theorem yst_x {A B : pvM} {S : List yCl} (h : yCc A B S) : yst9 A = yst0 B := by
  unfold yst9 yst0
  rw [h.2.2.2.2.1]
theorem yG0_g {A Z X : pvM} {S : List yCl} {n1 n2 n3 : Int32} {r : Option pvV} {s : yWs} {p : Nat → Nat} {n : Nat} (h : yCb A Z S) (g : yG0 n1 n2 n3 r Z X) (hs : yse (yWn A) s (n3.toInt, A.1 8 6, A.1 8 7, fun w => (Z.1 143 w).toInt)) (hn : Int32.toNatClampNeg n2 - Int32.toNatClampNeg n1 = n) (hp : ∀ i : Nat, i < n → ypa Z 144 (Int32.toNatClampNeg n1 + i) = p (Int32.toNatClampNeg n1 + i) ∧ p (Int32.toNatClampNeg n1 + i) < yWn A) : (∀ q : Nat, q ≠ 143 → X.1 q = Z.1 q) ∧ ∃ x : Int32, r = some (pvI x) ∧ x.toInt = (ywg A p (Int32.toNatClampNeg n1) s n).1 ∧ ∀ w : Nat, w < yWn A → yro ((ywg A p (Int32.toNatClampNeg n1) s n).2.2.2 w) (X.1 143 w).toInt := by
  obtain ⟨f, x, ex, d⟩ := g
  obtain ⟨d1, d2⟩ := d _ rfl
  have e8 := h.1.2.2.2.1
  rw [hn, ← e8.2.1, ← e8.2.2, ← yst_x h.1] at d1 d2
  have e := yse_k (P := yP9 A) (Q := yP0 Z) (st := yst9 A) (p := p) (q := ypa Z 144) (a := Int32.toNatClampNeg n1) (b := Int32.toNatClampNeg n1) hs (n := n) (fun i hi => ⟨(hp i hi).1.symm, yP0_x h (hp i hi).2⟩)
  exact ⟨f, x, ex, d1.trans e.1.symm, fun w hw => by rw [d2 w]; exact e.2.2.2 w hw⟩
theorem yW0_e {A Z : pvM} {S : List yCl} (h : yCb A Z S) (m : Int) (k : ∀ w : Nat, w < 7 → Z.1 143 w = yn0 Z w) : yse (yWn A) (yW0 A m) (m, A.1 8 6, A.1 8 7, fun w => (Z.1 143 w).toInt) := ⟨rfl, rfl, rfl, fun w hw => by
  have w7 := yWn_7 h.1.1.1
  show yro (ysI A w) (Z.1 143 w).toInt
  rw [← ysI_s (by omega)]
  exact yro_0 (h.2 w hw) rfl (by rw [k w (by omega)]; rfl)⟩
theorem yG0_a {A Z X : pvM} {S : List yCl} {n2 n3 : Int32} {r : Option pvV} {p : Nat → Nat} {n : Nat} (h : yCb A Z S) (g : yG0 0 n2 n3 r Z X) (k : ∀ w : Nat, w < 7 → Z.1 143 w = yn0 Z w) (hn : Int32.toNatClampNeg n2 = n) (hp : ∀ i : Nat, i < n → ypa Z 144 i = p i ∧ p i < yWn A) : (∀ q : Nat, q ≠ 143 → X.1 q = Z.1 q) ∧ ∃ x : Int32, r = some (pvI x) ∧ x.toInt = (yWa A p n3.toInt n).1 ∧ ∀ w : Nat, w < yWn A → yro ((yWa A p n3.toInt n).2.2.2 w) (X.1 143 w).toInt := by
  have d := yG0_g (p := p) (n := n) h g (yW0_e h n3.toInt k) (by rw [ycl0]; omega) (fun i hi => by rw [ycl0, Nat.zero_add]; exact hp i hi)
  rw [ycl0] at d
  exact d
/-- COST of a path, the reference -/
theorem yCp_0 {A Z : pvM} {S : List yCl} {x : Int32} {m : Int} {p : Nat → Nat} {n : Nat} (h : yCc A Z S) (hZ : pvOk Z) (l : yLaid Z) (d : yC0 Z x) (k : ∀ w : Nat, w < yWn A → yro ((yWa A p m n).2.2.2 w) (Z.1 143 w).toInt) : x.toInt = yCp A S (Z.1 124 4) (Z.1 124 3).toInt p m n := by
  have r := pvok_r hZ 124 3 (lo := 0) (hi := 108) rfl
  rw [yC0_L h l d]
  unfold yCp
  exact (yCs_c h.1.1 k (by omega)).symm
/-- what the class holds of her round, of SEEN, of the BOOK, is what the reference does -/
def yCr (A B : pvM) : Prop := A.1 100 0 = B.1 124 37 ∧ ∀ i : Nat, i < 7 → (i : Int) < (A.1 100 0).toInt → A.1 108 i = B.1 145 i ∧ zvl (A.1 108 i) (A.1 8 1)
def yCw (A B : pvM) : Prop := (A.1 102 0 = B.1 124 40 ∧ ∀ i : Nat, i < 6 → (i : Int) < (A.1 102 0).toInt → A.1 110 i = B.1 147 i ∧ A.1 118 i = B.1 148 i ∧ zvl (A.1 110 i) (A.1 8 1)) ∧ A.1 104 0 = B.1 124 43 ∧ ∀ i : Nat, i < 8 → (i : Int) < (A.1 104 0).toInt → A.1 112 i = B.1 149 i ∧ A.1 120 i = B.1 150 i ∧ zvl (A.1 112 i) (A.1 8 1)
def yCn (A B : pvM) : Prop := A.1 8 2 = B.1 124 3 ∧ A.1 8 3 = B.1 124 4
def yCr_p (A : pvM) : Nat → Nat := ypa A 108
def yCr_n (A : pvM) : Nat := Int32.toNatClampNeg (A.1 100 0)
theorem yCr_i {A B : pvM} (hA : pvOk A) (h : yCr A B) {i : Nat} (hi : i < yCr_n A) : ypa A 108 i = ypa B 145 i ∧ ypa A 108 i < yWn A ∧ ypa A 108 i < 7 := by
  have r := pvok_r hA 100 0 (lo := 0) (hi := 7) rfl
  have t := ycl r.1
  have e : (i : Int) < (A.1 100 0).toInt := by unfold yCr_n at hi; omega
  obtain ⟨a, b⟩ := h.2 i (by omega) e
  have w7 := yWn_7 hA
  have wi := yWn_i hA
  have t2 := ycl b.1
  have b2 := b.2
  unfold ypa
  rw [← a]
  exact ⟨rfl, by omega, by omega⟩
/-! both sides hold the same: from the relation between calls -/
theorem yGd_C {M : pvM} {q : Nat} {S : List yCl} (h : zHC M q S) : yGd S := fun x hx hw φ => by
  have m : x ∈ zcs S := List.mem_filter.mpr ⟨hx, by simpa using hw⟩
  obtain ⟨i, hi⟩ := List.getElem?_of_mem m
  obtain ⟨v, hv⟩ := (h.2.2.2.2 i x hi).2.2.2 φ
  exact ⟨v, (hv []).2.1⟩
theorem yS_r {M : pvM} (hok : pvOk M) (h : zHW M) : ∃ S : List yCl, zHC M (yHp M) S ∧ yTS M S ∧ yGd S := by
  obtain ⟨a1, a2, a3, a4, a5⟩ := h
  have r := pvok_r hok 124 15 (lo := -1) (hi := 5) rfl
  unfold yTS
  rcases a4 with ⟨b1, b2⟩ | ⟨b1, b2, b3⟩
  · refine ⟨[], ?_, if_pos b1 ▸ rfl, fun x hx => absurd hx List.not_mem_nil⟩
    have e : yHp M = 22 ∨ yHp M = 23 := by
      unfold yHp
      rcases b2 with b2 | b2 <;> rw [b2]
      · exact Or.inl (by decide)
      · exact Or.inr (by decide)
    rcases e with e | e <;> rw [e]
    · exact a2
    · exact a3
  · have t := ztn _ b1
    obtain ⟨S, s1, s2⟩ := a1 (Int32.toNatClampNeg (M.1 124 15)) (by omega)
    have e : yHp M = 15 + Int32.toNatClampNeg (M.1 124 15) := by
      unfold yHp
      rw [b3]; exact znat (nI_toInt (by omega))
    refine ⟨S, by rw [e]; exact s1, ?_, yGd_C s1⟩
    rw [if_neg (by omega)]
    exact s2
theorem yCb_r {M Y : pvM} (hok : pvOk M) (hw : M.1 8 1 = Y.1 124 0) (hP : zP1 M) (hV : zVe (M.1 8 1) (zw9 8 60 M) (zw0 1 5 6 131 M)) (hH : zHW M) (k3 : zKm 125 130 M Y) (ky : zKy0 1 5 6 131 M Y) (kh : zKh0 M Y) : ∃ S : List yCl, yCb M Y S := by
  obtain ⟨S, s1, s2, s3⟩ := yS_r hok hH
  have w7 := yWn_7 hok
  have wi := yWn_i hok
  have v : ∀ k : Nat, k < 10 → (k : Int) < (M.1 8 1).toInt + 3 → zw9 8 60 M k = zw0 1 5 6 131 Y k := fun k h1 h2 => (hV k h1 h2).trans (ky k h1).symm
  have st := zst_e hok hH
  refine ⟨S, ⟨⟨hok, s1, ?_, s3⟩, hw, fun w hw => ?_, ⟨v 0 (by decide) (by omega), v 1 (by decide) (by omega), v 2 (by decide) (by omega)⟩, by rw [zlO_k kh]; exact st.1, by rw [zlO_k kh]; exact st.2⟩, fun w hw => v (w + 3) (by omega) (by omega)⟩
  · unfold yTS at s2 ⊢
    rw [kh.2.1]
    split
    · next c => rw [if_pos c] at s2; exact s2
    · next c => rw [if_neg c] at s2; exact zHR_k s2 kh.2.2.2
  · have p := hP w (by omega) (by omega)
    have q := k3 w (by omega)
    exact ⟨fun f hf => (p.1 f hf).trans (q.1 f hf).symm, fun j hj => (p.2 j hj).trans (q.2 j hj).symm⟩
theorem yCr_r {M Y : pvM} (hc : M.1 100 0 = M.1 124 37) (kc : Y.1 124 37 = M.1 124 37) (h : zRr 100 108 145 7 M) (k : zRk 145 7 M Y) (b : zBd 100 108 8 7 M) : yCr M Y := ⟨hc.trans kc.symm, fun i hi hn => ⟨(h i hi hn).trans (k i hi).symm, b i hi hn⟩⟩
theorem yCw_r {M Y : pvM} (h1 : M.1 102 0 = M.1 124 40 ∧ Y.1 124 40 = M.1 124 40 ∧ M.1 104 0 = M.1 124 43 ∧ Y.1 124 43 = M.1 124 43) (a1 : zRr 102 110 147 6 M) (a2 : zRr 102 118 148 6 M) (a3 : zRr 104 112 149 8 M) (a4 : zRr 104 120 150 8 M) (k1 : zRk 147 6 M Y) (k2 : zRk 148 6 M Y) (k3 : zRk 149 8 M Y) (k4 : zRk 150 8 M Y) (b1 : zBd 102 110 8 6 M) (b2 : zBd 104 112 8 8 M) : yCw M Y := ⟨⟨h1.1.trans h1.2.1.symm, fun i hi hn => ⟨(a1 i hi hn).trans (k1 i hi).symm, (a2 i hi hn).trans (k2 i hi).symm, b1 i hi hn⟩⟩, h1.2.2.1.trans h1.2.2.2.symm, fun i hi hn => ⟨(a3 i hi hn).trans (k3 i hi).symm, (a4 i hi hn).trans (k4 i hi).symm, b2 i hi hn⟩⟩
/-! her round from now on, of both sides -/
theorem yRd_9 {M Z X : pvM} {B : pvM} {n4 : Int32} {r : Option pvV} (hok : pvOk M) (hr : yCr M B) (k : yLk M Z) (hs : ∀ w : Nat, w < yWn M → Z.1 12 w = yNs M w) (g : yGA 100 0 (Z.1 100 0) n4 r Z X) : (∀ q : Nat, q ≠ 12 → X.1 q = Z.1 q) ∧ ∃ x : Int32, r = some (pvI x) ∧ x.toInt = (yWa M (yCr_p M) n4.toInt (yCr_n M)).1 ∧ ∀ w : Nat, w < yWn M → (X.1 12 w).toInt = (yWa M (yCr_p M) n4.toInt (yCr_n M)).2.2.2 w := by
  have e1 : Z.1 100 = M.1 100 := k 100 (by decide)
  have e8 : Z.1 108 = M.1 108 := k 108 (by decide)
  refine yGA_a hok k g hs (by rw [e1]; rfl) (fun i hi => ?_)
  have z := yCr_i hok hr hi
  unfold yCr_p
  unfold ypa at z ⊢
  rw [e8]
  exact ⟨rfl, z.2.2⟩
/-- her round is laid as the path -/
def yPh (A B Z : pvM) (S : List yCl) : Prop := yCb A Z S ∧ Z.1 124 35 = A.1 100 0 ∧ ∀ j : Nat, j < 7 → Z.1 144 j = B.1 145 j
theorem yPh_P {A B Y Z : pvM} {S : List yCl} (h : yCb A B S) (hr : yCr A B) (k : yL0 B Y) (p : yLP Y Z) : yPh A B Z S := ⟨yCb_k (yCb_k h k) (yL0_P p), by rw [p.2.1, k 124 37 (by decide)]; exact hr.1.symm, fun j hj => (p.2.2 j hj).trans (k 145 j rfl)⟩
theorem yPh_k {A B Z X : pvM} {S : List yCl} (h : yPh A B Z S) (k : yL0 Z X) (e : X.1 124 35 = Z.1 124 35) (e2 : X.1 144 = Z.1 144) : yPh A B X S := ⟨yCb_k h.1 k, e.trans h.2.1, fun j hj => (congrFun e2 j).trans (h.2.2 j hj)⟩
theorem yPh_3 {A B Z X : pvM} {S : List yCl} (h : yPh A B Z S) (f : ∀ a : Nat, a ≠ 143 → X.1 a = Z.1 a) : yPh A B X S := yPh_k h (yL0_143 f) (congrFun (f 124 (by decide)) 35) (f 144 (by decide))
theorem yOn_n {Y Z : pvM} (o : yOn Y Z) : ∀ w : Nat, w < 7 → Z.1 143 w = yn0 Z w := fun w hw => by
  rw [o.2 w hw]
  unfold yn0
  rw [o.1 131 (by decide)]
theorem yRd_0 {A B Z X : pvM} {S : List yCl} {n3 : Int32} {r : Option pvV} (hr : yCr A B) (h : yPh A B Z S) (zn : ∀ w : Nat, w < 7 → Z.1 143 w = yn0 Z w) (g : yG0 0 (Z.1 124 35) n3 r Z X) : (∀ q : Nat, q ≠ 143 → X.1 q = Z.1 q) ∧ ∃ x : Int32, r = some (pvI x) ∧ x.toInt = (yWa A (yCr_p A) n3.toInt (yCr_n A)).1 ∧ ∀ w : Nat, w < yWn A → yro ((yWa A (yCr_p A) n3.toInt (yCr_n A)).2.2.2 w) (X.1 143 w).toInt := by
  have hA := h.1.1.1.1
  refine yG0_a h.1 g zn (by rw [h.2.1]; rfl) (fun i hi => ?_)
  have z := yCr_i hA hr hi
  have r7 := pvok_r hA 100 0 (lo := 0) (hi := 7) rfl
  have t := ycl r7.1
  have i7 : i < 7 := by unfold yCr_n at hi; omega
  unfold yCr_p
  refine ⟨?_, z.2.1⟩
  rw [z.1]
  unfold ypa
  rw [h.2.2 i i7]
/-! looked -/
def yLo (A : pvM) (m : Int) : Int32 := ylk (yWa A (yCr_p A) m (yCr_n A)).2.2.2 (A.1 112) (A.1 120) 0 (Int32.toNatClampNeg (A.1 104 0))
theorem yk9_L {M Y B : pvM} {v : Int32} (hok : pvOk M) (hr : yCr M B) (hw : yCw M B) (h : yk9 (some (pvI v)) M Y) : v = yLo M (M.1 8 4).toInt := by
  obtain ⟨h1, Z, e, h2, h3⟩ := h
  have k := yLk_B h2.1
  have wi := yWn_i hok
  have e4 : Z.1 8 = M.1 8 := k 8 (by decide)
  have r4 := pvok_r hok 8 4 (lo := 0) (hi := 9999) rfl
  have u0 : (0 : Int32).toInt = 0 := by decide
  have d := yRd_9 hok hr k (fun w hw => h2.2.2.2.2 w (by omega)) h3
  obtain ⟨f, x, ex, e1, e2⟩ := d
  rw [e4, zadd _ _ (by rw [u0]; omega) (by rw [u0]; omega), u0, Int.add_zero] at e2
  have c : ∀ a, yfp a = false → Y.1 a = M.1 a := fun a z => (f a (yfp_n z).1).trans (k a z)
  rw [zpI h1]
  unfold yka yLo
  rw [c 104 (by decide), c 112 (by decide), c 120 (by decide)]
  have r8 := pvok_r hok 104 0 (lo := 0) (hi := 8) rfl
  have t := ycl r8.1
  refine ylk_e (fun i h1 h2 => ⟨rfl, rfl, ?_⟩)
  obtain ⟨a, b, z⟩ := hw.2.2 i (by omega) (by omega)
  have tz := ycl z.1
  have z2 := z.2
  rw [e2 _ (by omega)]
theorem yk0_L {A B X : pvM} {S : List yCl} {v : Int32} (h : yCb A B S) (hr : yCr A B) (hw : yCw A B) (d : yk0 (some (pvI v)) B X) : v = yLo A (A.1 8 4).toInt := by
  obtain ⟨h1, Y, Z, e, p, o, g⟩ := d
  have hA := h.1.1.1
  have wi := yWn_i hA
  have hZ := yPh_3 (yPh_P h hr (yL0_r B) p) o.1
  obtain ⟨f, x, ex, e1, e2⟩ := yRd_0 hr hZ (yOn_n o) g
  have m1 : (Z.1 124 1).toInt = (A.1 8 4).toInt := by rw [hZ.1.1.2.2.2.1.1]
  rw [m1] at e2
  have c : ∀ a b, a ≠ 143 → yf0 a b = false → X.1 a b = B.1 a b := fun a b z y => by rw [f a z, o.1 a z]; exact yL0_P p a b y
  rw [zpI h1]
  unfold yka yLo
  have e43 : X.1 124 43 = A.1 104 0 := (c 124 43 (by decide) (by decide)).trans hw.2.1.symm
  rw [e43]
  have r8 := pvok_r hA 104 0 (lo := 0) (hi := 8) rfl
  have t := ycl r8.1
  refine (ylk_e (fun i h1 h2 => ?_)).symm
  obtain ⟨a, b, z⟩ := hw.2.2 i (by omega) (by omega)
  have tz := ycl z.1
  have z2 := z.2
  have rn := pvok_r hA 120 i (lo := 0) (hi := 9999) rfl
  exact ⟨a.trans (c 149 i (by decide) rfl).symm, b.trans (c 150 i (by decide) rfl).symm, yro_m (e2 _ (by omega)) rn.1 (by omega)⟩
