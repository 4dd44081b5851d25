/-! what the class lays in a HOUSE as it reads -/
def zq9 (M : pvM) : Nat := pvhp (M.1 6 4)
def zin (q a : Nat) : Prop := a = q ∨ a = q + 9 ∨ a = q + 18 ∨ a = q + 27
/-- but for the HOUSE that is read all HOUSES stay, and the text -/
def zHx (M X : pvM) : Prop := X.1 6 1 = M.1 6 1 ∧ X.1 6 4 = M.1 6 4 ∧ (∀ i : Nat, X.1 7 i = M.1 7 i) ∧ ∀ a b : Nat, 15 ≤ a → a < 51 → ¬ zin (zq9 M) a → X.1 a b = M.1 a b
theorem zHx_r (M : pvM) : zHx M M := ⟨rfl, rfl, fun _ => rfl, fun _ _ _ _ _ => rfl⟩
theorem zHx_q {M X : pvM} (h : zHx M X) : zq9 X = zq9 M := congrArg pvhp h.2.1
theorem zKh_q {M X : pvM} (h : zKh M X) : zq9 X = zq9 M := congrArg pvhp h.2.1
theorem zHx_s {M X : pvM} (h : zHx M X) : zs9 X = zs9 M := zs9_k h.1 h.2.2.1
theorem zHx_t {M Y X : pvM} (h : zHx M Y) (k : zHx Y X) : zHx M X := ⟨k.1.trans h.1, k.2.1.trans h.2.1, fun i => (k.2.2.1 i).trans (h.2.2.1 i), fun a b h1 h2 h3 => (k.2.2.2 a b h1 h2 (by rw [zHx_q h]; exact h3)).trans (h.2.2.2 a b h1 h2 h3)⟩
theorem zHx_k {M X : pvM} (h : zKh M X) : zHx M X := ⟨h.1, h.2.1, fun i => h.2.2 7 i (Nat.le_refl _), fun a b h1 _ _ => h.2.2 a b (by omega)⟩
def zAq (M X : pvM) (L : List Int32) : Prop := (∀ k : Nat, k < 5 → X.1 (zq9 M) k = M.1 (zq9 M) k) ∧ (∀ b : Nat, X.1 (zq9 M + 9) b = M.1 (zq9 M + 9) b) ∧ (∀ b : Nat, X.1 (zq9 M + 18) b = M.1 (zq9 M + 18) b) ∧ (X.1 (zq9 M) 5).toInt = (M.1 (zq9 M) 5).toInt + L.length ∧ (∀ j : Nat, (j : Int) < (M.1 (zq9 M) 5).toInt → X.1 (zq9 M + 27) j = M.1 (zq9 M + 27) j) ∧ ∀ j : Nat, j < L.length → X.1 (zq9 M + 27) (Int32.toNatClampNeg (M.1 (zq9 M) 5) + j) = L.getD j 0
def zRs (M : pvM) : Prop := zRq M ∧ (15 ≤ zq9 M ∧ zq9 M ≤ 23) ∧ 0 ≤ (M.1 (zq9 M) 5).toInt ∧ (M.1 (zq9 M) 5).toInt ≤ (M.1 6 2).toInt
theorem zAp_0 {M X : pvM} (hs : zRs M) (h : zKh M X) : zAq M X [] := by
  have q := hs.2.1
  exact ⟨fun k _ => h.2.2 _ k (by omega), fun b => h.2.2 _ b (by omega), fun b => h.2.2 _ b (by omega), by rw [h.2.2 _ 5 (by omega)]; exact (Int.add_zero _).symm, fun j _ => h.2.2 _ j (by omega), fun j hj => absurd hj (Nat.not_lt_zero _)⟩
theorem zAp_k {M Y X : pvM} {L : List Int32} (hs : zRs M) (k : zAq M Y L) (h : zKh Y X) : zAq M X L := by
  have q := hs.2.1
  obtain ⟨k1, k2, k3, k4, k5, k6⟩ := k
  exact ⟨fun k z => (h.2.2 _ k (by omega)).trans (k1 k z), fun b => (h.2.2 _ b (by omega)).trans (k2 b), fun b => (h.2.2 _ b (by omega)).trans (k3 b), by rw [h.2.2 _ 5 (by omega)]; exact k4, fun j z => (h.2.2 _ j (by omega)).trans (k5 j z), fun j hj => (h.2.2 _ _ (by omega)).trans (k6 j hj)⟩
theorem zAp_t {M Y X : pvM} {L L2 : List Int32} (hs : zRs M) (hx : zHx M Y) (k : zAq M Y L) (h : zAq Y X L2) : zAq M X (L ++ L2) := by
  obtain ⟨k1, k2, k3, k4, k5, k6⟩ := k
  obtain ⟨h1, h2, h3, h4, h5, h6⟩ := h
  rw [zHx_q hx] at h1 h2 h3 h4 h5 h6
  have s0 := hs.2.2.1
  have e0 := ztn _ s0
  have e1 := ztn (Y.1 (zq9 M) 5) (by omega)
  refine ⟨fun k z => (h1 k z).trans (k1 k z), fun b => (h2 b).trans (k2 b), fun b => (h3 b).trans (k3 b), by rw [h4, k4, List.length_append]; omega, fun j z => (h5 j (by omega)).trans (k5 j z), fun j hj => ?_⟩
  rw [List.length_append] at hj
  by_cases c : j < L.length
  · rw [h5 _ (by omega), k6 j c, List.getD_eq_getElem?_getD, List.getD_eq_getElem?_getD, List.getElem?_append_left c]
  · have e2 : Int32.toNatClampNeg (M.1 (zq9 M) 5) + j = Int32.toNatClampNeg (Y.1 (zq9 M) 5) + (j - L.length) := by omega
    rw [e2, h6 _ (by omega), List.getD_eq_getElem?_getD, List.getD_eq_getElem?_getD, List.getElem?_append_right (by omega)]
/-- one step more -/
def zpS (M : pvM) (q : Nat) (n : Int32) : pvM := pvu (pvu M (q + 27) (Int32.toNatClampNeg (M.1 q 5)) n) q 5 (M.1 q 5 + 1)
def zSs (q : Nat) (n : Int32) (M X : pvM) : Prop := ((M.1 q 5).toInt < 100 ∧ X = zpS M q n) ∨ (100 ≤ (M.1 q 5).toInt ∧ X = M)
theorem zSs_o {q : Nat} {n : Int32} {M X : pvM} (h : zSs q n M X) (a b : Nat) (h1 : a ≠ q ∨ b ≠ 5) (h2 : a ≠ q + 27) : X.1 a b = M.1 a b := by
  rcases h with ⟨_, e⟩ | ⟨_, e⟩
  · have e1 : pvu M (q + 27) (Int32.toNatClampNeg (M.1 q 5)) n = pvu M (q + 27) (Int32.toNatClampNeg (M.1 q 5)) n := rfl
    exact (pvu_n (show X = pvu (pvu M (q + 27) (Int32.toNatClampNeg (M.1 q 5)) n) q 5 (M.1 q 5 + 1) from e) a b h1).trans (pvu_n e1 a b (Or.inl h2))
  · rw [e]
theorem zSs_x {q : Nat} {n : Int32} {M X : pvM} (hs : 15 ≤ zq9 M ∧ zq9 M ≤ 23) (e : q = zq9 M) (h : zSs q n M X) : zHx M X ∧ X.1 6 2 = M.1 6 2 ∧ X.1 6 3 = M.1 6 3 := by
  subst e
  exact ⟨⟨zSs_o h 6 1 (Or.inr (by decide)) (by omega), zSs_o h 6 4 (Or.inr (by decide)) (by omega), fun i => zSs_o h 7 i (Or.inl (by omega)) (by omega), fun a b h1 h2 h3 => zSs_o h a b (Or.inl (fun z => h3 (Or.inl z))) (fun z => h3 (Or.inr (Or.inr (Or.inr z))))⟩, zSs_o h 6 2 (Or.inr (by decide)) (by omega), zSs_o h 6 3 (Or.inr (by decide)) (by omega)⟩
theorem zSs_a {q : Nat} {n : Int32} {M X : pvM} (e : q = zq9 M) (h0 : 0 ≤ (M.1 q 5).toInt) (h1 : (M.1 q 5).toInt < 100) (h : zSs q n M X) : zAq M X [n] := by
  subst e
  have o := zSs_o h
  rcases h with ⟨_, e⟩ | ⟨z, _⟩
  · have e1 : pvu M (zq9 M + 27) (Int32.toNatClampNeg (M.1 (zq9 M) 5)) n = pvu M (zq9 M + 27) (Int32.toNatClampNeg (M.1 (zq9 M) 5)) n := rfl
    have e : X = pvu (pvu M (zq9 M + 27) (Int32.toNatClampNeg (M.1 (zq9 M) 5)) n) (zq9 M) 5 (M.1 (zq9 M) 5 + 1) := e
    have e0 := ztn _ h0
    refine ⟨fun k z => o _ k (Or.inr (by omega)) (by omega), fun b => o _ b (Or.inl (by omega)) (by omega), fun b => o _ b (Or.inl (by omega)) (by omega), ?_, fun j z => ?_, fun j hj => ?_⟩
    · rw [pvu_s e, zadd_1 _ (by omega)]
      rfl
    · rw [pvu_n e _ _ (Or.inl (by omega)), pvu_n e1 _ _ (Or.inr (by omega))]
    · have : j = 0 := Nat.lt_one_iff.mp hj
      subst this
      rw [pvu_n e _ _ (Or.inl (by omega))]
      exact pvu_s e1
  · omega
/-- so far, and what was laid -/
def zAc (M Y : pvM) (L : List Int32) : Prop := zRq Y ∧ zHx M Y ∧ zAq M Y L ∧ zP9 M + L.length ≤ zP9 Y
theorem zP9_i {M : pvM} (h : zRq M) : (zP9 M : Int) = (M.1 6 2).toInt := ztn _ h.1.1
theorem zAc_0 {M : pvM} (hs : zRs M) : zAc M M [] := ⟨hs.1, zHx_r M, zAp_0 hs (zKh_r M), Nat.le_refl _⟩
theorem zAc_k {M Y X : pvM} {L : List Int32} (hs : zRs M) (h : zAc M Y L) (hq : zRq X) (k : zKh Y X) (hp : zP9 Y ≤ zP9 X) : zAc M X L := ⟨hq, zHx_t h.2.1 (zHx_k k), zAp_k hs h.2.2.1 k, by have := h.2.2.2; omega⟩
theorem zAc_c {M Y X : pvM} {L L2 : List Int32} (hs : zRs M) (h : zAc M Y L) (hq : zRq X) (hx : zHx Y X) (ha : zAq Y X L2) (hp : zP9 Y + L2.length ≤ zP9 X) : zAc M X (L ++ L2) := ⟨hq, zHx_t h.2.1 hx, zAp_t hs h.2.1 h.2.2.1 ha, by have := h.2.2.2; rw [List.length_append]; omega⟩
theorem zAc_rs {M Y : pvM} {L : List Int32} (hs : zRs M) (h : zAc M Y L) : zRs Y := by
  obtain ⟨a, b, c, d⟩ := h
  have e1 := zP9_i hs.1
  have e2 := zP9_i a
  have q := zHx_q b
  refine ⟨a, by rw [q]; exact hs.2.1, ?_, ?_⟩
  · rw [q, c.2.2.2.1]
    have := hs.2.2.1
    omega
  · rw [q, c.2.2.2.1]
    have := hs.2.2.2
    omega
theorem zRq_s {M X : pvM} (h : zRq M) (hx : zHx M X) (h2 : X.1 6 2 = M.1 6 2) (h3 : X.1 6 3 = M.1 6 3) : zRq X ∧ zP9 X = zP9 M := ⟨zRq_k h hx.1 h2 h3 hx.2.2.1, by unfold zP9; rw [h2]⟩
theorem zAc_s {M Y X : pvM} {L : List Int32} {q : Nat} {n : Int32} (hs : zRs M) (h : zAc M Y L) (e : q = zq9 Y) (d : zSs q n Y X) (hlt : zP9 M + L.length < zP9 Y) : zAc M X (L ++ [n]) ∧ zP9 X = zP9 Y := by
  have rs := zAc_rs hs h
  obtain ⟨x1, x2, x3⟩ := zSs_x rs.2.1 e d
  obtain ⟨r1, r2⟩ := zRq_s h.1 x1 x2 x3
  have e1 := zP9_i hs.1
  have e2 := zP9_i h.1
  have s1 := h.2.2.1.2.2.2.1
  have s2 := hs.2.2
  have s3 := h.1.1
  refine ⟨⟨r1, zHx_t h.2.1 x1, zAp_t hs h.2.1 h.2.2.1 (zSs_a e ?_ ?_ d), ?_⟩, r2⟩
  · rw [e, zHx_q h.2.1]
    omega
  · rw [e, zHx_q h.2.1]
    omega
  · rw [List.length_append, r2]
    show zP9 M + (L.length + 1) ≤ _
    omega
theorem zKh_p {M Y : pvM} (h : zRs M) (hq : zRq Y) (k : zKh M Y) (hp : zP9 M ≤ zP9 Y) : zRs Y := zAc_rs h (zAc_k h (zAc_0 h) hq k hp)
/-- a reading that lays steps -/
def zRc (T : (Nat → Int32) → Nat → Bool → Nat → List Int32 → Prop) (r : Option pvV) (M X : pvM) : Prop := zRq X ∧ zHx M X ∧ ∃ (b : Bool) (L : List Int32), r = some (pvI (bif b then 1 else 0)) ∧ (b = true → zAq M X L) ∧ T (zs9 M) (zP9 M) b (zP9 X) L
theorem zRc_y {T : (Nat → Int32) → Nat → Bool → Nat → List Int32 → Prop} {x : Int32} {M X : pvM} (h : zRc T (some (pvI x)) M X) (c : ¬ x = 0) : zRq X ∧ zHx M X ∧ ∃ L : List Int32, zAq M X L ∧ T (zs9 M) (zP9 M) true (zP9 X) L := by
  obtain ⟨a, b, t, L, e, k, l⟩ := h
  have e : x = bif t then 1 else 0 := Sum.inl.inj (Option.some.inj e)
  cases t
  · exact absurd e c
  · exact ⟨a, b, L, k rfl, l⟩
theorem zRc_n {T : (Nat → Int32) → Nat → Bool → Nat → List Int32 → Prop} {x : Int32} {M X : pvM} (h : zRc T (some (pvI x)) M X) (c : x = 0) : zRq X ∧ zHx M X ∧ ∃ L : List Int32, T (zs9 M) (zP9 M) false (zP9 X) L := by
  obtain ⟨a, b, t, L, e, k, l⟩ := h
  have e : x = bif t then 1 else 0 := Sum.inl.inj (Option.some.inj e)
  cases t
  · exact ⟨a, b, L, l⟩
  · rw [c] at e
    exact absurd e (by decide)
/-- a test -/
def zTt (σ : Nat → Int32) (p : Nat) (b : Bool) (q : Nat) (L : List Int32) : Prop := ztst σ p = (b, q) ∧ (b = true → L = [zk9 σ p])
def zLET : List Int32 := [119, 107, 102, 114, 115, 116]
def zSIG : List Int32 := [60, 61, 62]
theorem zlf_i (c : Int32) : (if c = -1 then (-1 : Int32) else pvixF c zLET 0) = zlf c := by
  unfold zLET zlf
  by_cases c0 : c = -1
  · rw [if_pos c0, c0]
    decide
  rw [if_neg c0]
  unfold pvixF
  by_cases k1 : c = 119
  · rw [if_pos k1.symm, if_pos k1]; rfl
  rw [if_neg (fun z => k1 z.symm), if_neg k1]
  unfold pvixF
  by_cases k2 : c = 107
  · rw [if_pos k2.symm, if_pos k2]; rfl
  rw [if_neg (fun z => k2 z.symm), if_neg k2]
  unfold pvixF
  by_cases k3 : c = 102
  · rw [if_pos k3.symm, if_pos k3]; rfl
  rw [if_neg (fun z => k3 z.symm), if_neg k3]
  unfold pvixF
  by_cases k4 : c = 114
  · rw [if_pos k4.symm, if_pos k4]; rfl
  rw [if_neg (fun z => k4 z.symm), if_neg k4]
  unfold pvixF
  by_cases k5 : c = 115
  · rw [if_pos k5.symm, if_pos k5]; rfl
  rw [if_neg (fun z => k5 z.symm), if_neg k5]
  unfold pvixF
  by_cases k6 : c = 116
  · rw [if_pos k6.symm, if_pos k6]; rfl
  rw [if_neg (fun z => k6 z.symm), if_neg k6]
  rfl
theorem zlf_s (c : Int32) : (zlf c).toInt < 0 ↔ zlf c = -1 := by
  constructor
  · intro h
    by_cases z : zlf c = -1
    · exact z
    · obtain ⟨⟨l, hl, e⟩, -⟩ := zlf_r z
      rw [e, nI_toInt (by omega)] at h
      omega
  · intro h
    rw [h]
    decide
theorem zsg_i (c : Int32) : (zsg c = true → (if c = -1 then (-1 : Int32) else pvixF c zSIG 0) = c - 60) ∧ ((if c = -1 then (-1 : Int32) else pvixF c zSIG 0).toInt < 0 ↔ ¬ zsg c = true) := by
  unfold zSIG
  by_cases c0 : c = -1
  · rw [if_pos c0, c0]
    exact ⟨fun z => absurd z (by decide), by decide⟩
  rw [if_neg c0]
  unfold pvixF
  by_cases k1 : 60 = c
  · rw [if_pos k1, ← k1]; decide
  rw [if_neg k1]
  unfold pvixF
  by_cases k2 : 61 = c
  · rw [if_pos k2, ← k2]; decide
  rw [if_neg k2]
  unfold pvixF
  by_cases k3 : 62 = c
  · rw [if_pos k3, ← k3]; decide
  rw [if_neg k3]
  have n : ¬ zsg c = true := by
    intro z
    unfold zsg at z
    rw [Bool.and_eq_true, decide_eq_true_eq, decide_eq_true_eq, zi_le, zi_le] at z
    rw [zi_eq] at k1 k2 k3
    have u1 : (60 : Int32).toInt = 60 := by decide
    have u2 : (61 : Int32).toInt = 61 := by decide
    have u3 : (62 : Int32).toInt = 62 := by decide
    omega
  exact ⟨fun z => absurd z n, fun _ => n, fun _ => (show (-1 : Int32).toInt < 0 from by decide)⟩
theorem zRo_c {l : List Int32} {x : Int32} {M X : pvM} (h : zRo l (some (pvI x)) M X) : zRq X ∧ zKh M X ∧ x = (if zs9 M (zP9 M) = -1 then -1 else pvixF (zs9 M (zP9 M)) l 0) ∧ zP9 X = (if x.toInt < 0 then zP9 M else zP9 M + 1) := by
  obtain ⟨a, b, y, e, k, p⟩ := h
  have e : x = y := Sum.inl.inj (Option.some.inj e)
  subst e
  exact ⟨a, b, k, p⟩
theorem zTt_1 {x : Int32} {M A : pvM} (d : zRo zLET (some (pvI x)) M A) (c : x.toInt < 0) : zRc zTt (some (pvI 0)) M A := by
  obtain ⟨a, b, k, p⟩ := zRo_c d
  refine ⟨a, zHx_k b, false, [], rfl, fun z => absurd z (by decide), ?_, fun z => absurd z (by decide)⟩
  rw [if_pos c] at p
  rw [k, zlf_i, zlf_s] at c
  unfold ztst
  rw [if_neg (fun z => z c), p]
theorem zTt_2 {x y : Int32} {M A B : pvM} (d : zRo zLET (some (pvI x)) M A) (c : ¬ x.toInt < 0) (d2 : zRo zSIG (some (pvI y)) A B) (c2 : y.toInt < 0) : zRc zTt (some (pvI 0)) M B := by
  obtain ⟨a, b, k, p⟩ := zRo_c d
  obtain ⟨a2, b2, k2, p2⟩ := zRo_c d2
  refine ⟨a2, zHx_k (zKh_t b b2), false, [], rfl, fun z => absurd z (by decide), ?_, fun z => absurd z (by decide)⟩
  rw [if_neg c] at p
  rw [if_pos c2] at p2
  rw [k, zlf_i, zlf_s] at c
  rw [k2, zKh_s b, p, (zsg_i _).2] at c2
  unfold ztst
  rw [if_pos c, if_neg c2, p2, p]
theorem zTt_3 {x y z : Int32} {M A B X : pvM} (d : zRo zLET (some (pvI x)) M A) (c : ¬ x.toInt < 0) (d2 : zRo zSIG (some (pvI y)) A B) (c2 : ¬ y.toInt < 0) (d3 : zRn (some (pvI z)) B X) (c3 : z.toInt < 0) : zRc zTt (some (pvI 0)) M X := by
  obtain ⟨a, b, k, p⟩ := zRo_c d
  obtain ⟨a2, b2, k2, p2⟩ := zRo_c d2
  obtain ⟨a3, b3, k3, p3⟩ := zRn_no d3 c3
  refine ⟨a3, zHx_k (zKh_t (zKh_t b b2) b3), false, [], rfl, fun z => absurd z (by decide), ?_, fun z => absurd z (by decide)⟩
  rw [if_neg c] at p
  rw [if_neg c2, p] at p2
  rw [k, zlf_i, zlf_s] at c
  rw [k2, zKh_s b, p, (zsg_i _).2, Decidable.not_not] at c2
  rw [zKh_s (zKh_t b b2), p2] at k3 p3
  unfold ztst
  rw [if_pos c, if_pos c2, show zP9 M + 2 = zP9 M + 1 + 1 from rfl, k3, p3]
theorem zTt_4 {x y z : Int32} {q : Nat} {M A B C X : pvM} (hs : zRs M) (d : zRo zLET (some (pvI x)) M A) (c : ¬ x.toInt < 0) (d2 : zRo zSIG (some (pvI y)) A B) (c2 : ¬ y.toInt < 0) (d3 : zRn (some (pvI z)) B C) (c3 : ¬ z.toInt < 0) (e : q = zq9 C) (d4 : zSs q ((((x * 3) + y) * 100) + z) C X) : zRc zTt (some (pvI 1)) M X := by
  obtain ⟨a, b, k, p⟩ := zRo_c d
  obtain ⟨a2, b2, k2, p2⟩ := zRo_c d2
  obtain ⟨a3, b3, k3, p3, k4⟩ := zRn_y d3 c3
  have bb := zKh_t (zKh_t b b2) b3
  rw [if_neg c] at p
  rw [if_neg c2, p] at p2
  rw [k, zlf_i, zlf_s] at c
  rw [k2, zKh_s b, p, (zsg_i _).2, Decidable.not_not] at c2
  rw [k2, zKh_s b, p, (zsg_i _).1 c2, k, zlf_i] at d4
  rw [zKh_s (zKh_t b b2), p2] at k3 p3 k4
  have t : ztst (zs9 M) (zP9 M) = (true, zP9 C) := by
    unfold ztst
    rw [if_pos c, if_pos c2, show zP9 M + 2 = zP9 M + 1 + 1 from rfl, k3, p3]
  have l := (zk_sem t (Nat.le_refl 1)).2
  have ac : zAc M C [] := zAc_k hs (zAc_0 hs) a3 bb (by omega)
  obtain ⟨g1, g2⟩ := zAc_s hs ac e d4 (by show zP9 M + 0 < _; omega)
  refine ⟨g1.1, g1.2.1, true, _, rfl, fun _ => g1.2.2.1, by rw [g2]; exact t, fun _ => ?_⟩
  rw [k4]
  rfl
