/-! the reference's reader of texts: what its rows hold -/
theorem pvu_row {M X : pvM} {q k : Nat} {x : Int32} (e : X = pvu M q k x) {a : Nat} (h : a ≠ q) : X.1 a = M.1 a := funext fun i => pvu_n e a i (Or.inl h)
theorem pvu_self {M X : pvM} {q k : Nat} {x : Int32} (e : X = pvu M q k x) : X.1 q = upd (M.1 q) k x := by
  subst e
  unfold pvu
  rw [pvr_q]
theorem zupd_s (f : Nat → Int32) (i : Nat) (x : Int32) : upd f i x i = x := if_pos rfl
theorem zupd_n (f : Nat → Int32) (i : Nat) (x : Int32) {j : Nat} (h : j ≠ i) : upd f i x j = f j := if_neg h
theorem zdep_c {f g : Nat → Int32} {a : Nat} : ∀ {n : Nat}, (∀ k, k < n → f (a + k) = g (a + k)) → zdep f a n = zdep g a n
  | 0, _ => rfl
  | n + 1, h => by
    show zdep f a n + _ = zdep g a n + _
    rw [zdep_c (fun k hk => h k (by omega)), h n (by omega)]
theorem zok_c {f g : Nat → Int32} {a n : Nat} (h : ∀ k, k < n → f (a + k) = g (a + k)) (hz : zok f a n) : zok g a n := fun k hk => by
  have h1 := hz k hk
  rw [zdep_c (g := g) (fun j hj => h j (by omega)), h k hk] at h1
  exact h1
theorem zok_push {f : Nat → Int32} {a n : Nat} {v : Int32} (h : zok f a n) (h1 : v.toInt = -33 → 1 ≤ zdep f a n) (h2 : ¬ v.toInt = -33 → v.toInt < 0 → 2 ≤ zdep f a n) : zok (upd f (a + n) v) a (n + 1) ∧ zdep (upd f (a + n) v) a (n + 1) = zdep f a n + (if v.toInt = -33 then 0 else if v.toInt < 0 then -1 else 1) := by
  have e : ∀ k, k < n → f (a + k) = upd f (a + n) v (a + k) := fun k hk => (zupd_n f _ v (by omega)).symm
  have e1 := zdep_c (g := upd f (a + n) v) e
  refine ⟨fun k hk => ?_, ?_⟩
  · by_cases c : k < n
    · exact zok_c e h k c
    · have hk2 : k = n := by omega
      subst hk2
      rw [zupd_s, ← e1]
      exact ⟨h1, h2⟩
  · show zdep (upd f (a + n) v) a n + _ = _
    rw [zupd_s, ← e1]
def zwB (w : Nat → Int32) : Nat → Int
  | 0 => 0
  | n + 1 => zwB w n + (if (w n).toInt = 38 ∨ (w n).toInt = 124 then 1 else 0)
theorem zwB_0 (w : Nat → Int32) : ∀ n, 0 ≤ zwB w n
  | 0 => Int.le_refl _
  | n + 1 => by
    have := zwB_0 w n
    show 0 ≤ zwB w n + _
    split <;> omega
theorem zwB_c {f g : Nat → Int32} : ∀ {n : Nat}, (∀ k, k < n → f k = g k) → zwB f n = zwB g n
  | 0, _ => rfl
  | n + 1, h => by
    show zwB f n + _ = zwB g n + _
    rw [zwB_c (fun k hk => h k (by omega)), h n (by omega)]
def zTx (f : Nat) (M : pvM) : Prop := f ≤ 500 ∧ (f : Int) ≤ (M.1 124 27).toInt ∧ (M.1 124 27).toInt - (f : Int) ≤ (M.1 124 17).toInt ∧ (M.1 124 17).toInt ≤ 100
def zG (g : Nat → Int32) (f a : Nat) (e : Int) (M : pvM) : Prop := ∃ s n : Nat, f ≤ a ∧ a ≤ s ∧ f ≤ 500 ∧ (M.1 124 27).toInt = (s : Int) ∧ (M.1 124 28).toInt = (n : Int) ∧ (s : Int) - (f : Int) + (n : Int) ≤ (M.1 124 17).toInt ∧ (M.1 124 17).toInt ≤ 100 ∧ (∀ k, k < a → M.1 138 k = g k) ∧ zok (M.1 138) a (s - a) ∧ zdep (M.1 138) a (s - a) = zwB (M.1 139) n + e
theorem zG_n {g : Nat → Int32} {f a : Nat} {e : Int} {M : pvM} (h : zG g f a e M) : (0 ≤ (M.1 124 27).toInt ∧ 0 ≤ (M.1 124 28).toInt ∧ (M.1 124 27).toInt + (M.1 124 28).toInt ≤ 600 ∧ (a : Int) ≤ (M.1 124 27).toInt ∧ (f : Int) ≤ (M.1 124 27).toInt) ∧ (M.1 124 27).toInt - (f : Int) + (M.1 124 28).toInt ≤ (M.1 124 17).toInt ∧ (M.1 124 17).toInt ≤ 100 ∧ (f : Int) ≤ 500 := by
  obtain ⟨s, n, h1, h2, h3, h4, h5, h6, h7, h8, h9, h10⟩ := h
  omega
theorem zG_t {g : Nat → Int32} {f a : Nat} {e : Int} {M X : pvM} (h : zG g f a e M) (c27 : X.1 124 27 = M.1 124 27) (c28 : X.1 124 28 = M.1 124 28) (r138 : X.1 138 = M.1 138) (r139 : X.1 139 = M.1 139) (ha : (M.1 124 17).toInt ≤ (X.1 124 17).toInt) (hb : (X.1 124 17).toInt ≤ 100) : zG g f a e X := by
  obtain ⟨s, n, h1, h2, h3, h4, h5, h6, h7, h8, h9, h10⟩ := h
  exact ⟨s, n, h1, h2, h3, by rw [c27]; exact h4, by rw [c28]; exact h5, by omega, hb, by rw [r138]; exact h8, by rw [r138]; exact h9, by rw [r138, r139]; exact h10⟩
def zpe (M : pvM) (v : Int32) : pvM := pvu (pvu M 138 (M.1 124 27).toNatClampNeg v) 124 27 (M.1 124 27 + 1)
theorem zpe_c {M X : pvM} {v : Int32} (e : X = zpe M v) : X.1 124 27 = M.1 124 27 + 1 ∧ X.1 138 = upd (M.1 138) (M.1 124 27).toNatClampNeg v ∧ X.1 139 = M.1 139 ∧ X.1 124 28 = M.1 124 28 ∧ X.1 124 17 = M.1 124 17 := by
  have e1 : X = pvu (pvu M 138 (M.1 124 27).toNatClampNeg v) 124 27 (M.1 124 27 + 1) := e
  have e2 : pvu M 138 (M.1 124 27).toNatClampNeg v = pvu M 138 (M.1 124 27).toNatClampNeg v := rfl
  refine ⟨pvu_s e1, ?_, ?_, ?_, ?_⟩
  · rw [pvu_row e1 (by decide), pvu_self e2]
  · rw [pvu_row e1 (by decide), pvu_row e2 (by decide)]
  · rw [pvu_n e1 124 28 (Or.inr (by decide)), pvu_n e2 124 28 (Or.inl (by decide))]
  · rw [pvu_n e1 124 17 (Or.inr (by decide)), pvu_n e2 124 17 (Or.inl (by decide))]
theorem zG_put {g : Nat → Int32} {f a n n' : Nat} {e e' : Int} {M X : pvM} {v : Int32} (h : zG g f a e M) (hn : (M.1 124 28).toInt = (n : Int)) (h27 : (X.1 124 27).toInt = (M.1 124 27).toInt + 1) (r138 : X.1 138 = upd (M.1 138) (M.1 124 27).toNatClampNeg v) (r139 : X.1 139 = M.1 139) (h28 : (X.1 124 28).toInt = (n' : Int)) (hat : (M.1 124 27).toInt + 1 - (f : Int) + (n' : Int) ≤ (X.1 124 17).toInt) (hb : (X.1 124 17).toInt ≤ 100) (hv : v.toInt = -33 → 1 ≤ zwB (M.1 139) n + e) (hv2 : ¬ v.toInt = -33 → v.toInt < 0 → 2 ≤ zwB (M.1 139) n + e)
    (hB : zwB (M.1 139) n' + e' = zwB (M.1 139) n + e + (if v.toInt = -33 then 0 else if v.toInt < 0 then -1 else 1)) : zG g f a e' X := by
  obtain ⟨s, m, h1, h2, h3, h4, h5, h6, h7, h8, h9, h10⟩ := h
  have hm : m = n := by omega
  subst hm
  have hs : (M.1 124 27).toNatClampNeg = a + (s - a) := by rw [znat h4]; omega
  have hp := zok_push (v := v) h9 (by rw [h10]; exact hv) (by rw [h10]; exact hv2)
  rw [hs] at r138
  refine ⟨s + 1, n', h1, by omega, h3, by omega, h28, by omega, hb, fun k hk => ?_, ?_, ?_⟩
  · rw [r138, zupd_n _ _ _ (by omega)]
    exact h8 k hk
  · rw [r138, show s + 1 - a = s - a + 1 by omega]
    exact hp.1
  · rw [r138, r139, show s + 1 - a = s - a + 1 by omega, hp.2, h10, hB]
theorem zwB_top {w : Nat → Int32} {x : Int32} {n : Nat} (h : x.toInt = (n : Int)) (h0 : 0 < x.toInt) : ∃ m : Nat, n = m + 1 ∧ (x - 1).toNatClampNeg = m ∧ (x - 1).toInt = (m : Int) ∧ zwB w n = zwB w m + (if (w (x - 1).toNatClampNeg).toInt = 38 ∨ (w (x - 1).toNatClampNeg).toInt = 124 then 1 else 0) := by
  obtain ⟨m, rfl⟩ : ∃ m, n = m + 1 := ⟨n - 1, by omega⟩
  have hb := zbnd x
  have e0 : (1 : Int32).toInt = 1 := by decide
  have e : (x - 1).toInt = (m : Int) := by rw [zsub] <;> omega
  exact ⟨m, rfl, znat e, e, by rw [znat e]; rfl⟩
theorem zG_w {g : Nat → Int32} {f a : Nat} {M X1 X2 X3 : pvM} {z : Int32} (h : zG g f a 1 M) (d1 : X1 = zpe M (-33)) (e2 : X2 = pvu X1 124 28 (X1.1 124 28 - 1)) (e3 : X3 = pvu X2 124 29 z) (hw : 0 < (M.1 124 28).toInt) (ht : (M.1 139 (M.1 124 28 - 1).toNatClampNeg).toInt = 33) : zG g f a 1 X3 := by
  have hn := zG_n h
  obtain ⟨c1, c2, c3, c4, c5⟩ := zpe_c d1
  obtain ⟨s, n, -, -, -, -, hn2, -⟩ := id h
  obtain ⟨m, rfl, k1, k2, k3⟩ := zwB_top (w := M.1 139) hn2 hw
  have m33 : (-33 : Int32).toInt = -33 := by decide
  refine zG_put (v := -33) (n := m + 1) (n' := m) h hn2 ?_ ?_ ?_ ?_ ?_ ?_ ?_ ?_ ?_
  · rw [pvu_n e3 124 27 (Or.inr (by decide)), pvu_n e2 124 27 (Or.inr (by decide)), c1, zadd_1 _ (by omega)]
  · rw [pvu_row e3 (by decide), pvu_row e2 (by decide), c2]
  · rw [pvu_row e3 (by decide), pvu_row e2 (by decide), c3]
  · rw [pvu_n e3 124 28 (Or.inr (by decide)), pvu_s e2, c4, k2]
  · rw [pvu_n e3 124 17 (Or.inr (by decide)), pvu_n e2 124 17 (Or.inr (by decide)), c5]
    omega
  · rw [pvu_n e3 124 17 (Or.inr (by decide)), pvu_n e2 124 17 (Or.inr (by decide)), c5]
    omega
  · intro _
    have := zwB_0 (M.1 139) (m + 1)
    omega
  · intro q
    exact absurd m33 q
  · rw [if_pos m33, k3, ht]
    simp
theorem zG_s {g : Nat → Int32} {f a : Nat} {M X1 X2 : pvM} (h : zG g f a 1 M) (e1 : X1 = pvu M 124 28 (M.1 124 28 - 1)) (d2 : X2 = zpe X1 (-(X1.1 139 (X1.1 124 28).toNatClampNeg))) (hw : 0 < (M.1 124 28).toInt) (ht : (M.1 139 (M.1 124 28 - 1).toNatClampNeg).toInt = 38 ∨ (M.1 139 (M.1 124 28 - 1).toNatClampNeg).toInt = 124) : zG g f a 1 X2 := by
  have hn := zG_n h
  obtain ⟨c1, c2, c3, c4, c5⟩ := zpe_c d2
  obtain ⟨s, n, -, -, -, -, hn2, -⟩ := id h
  obtain ⟨m, rfl, k1, k2, k3⟩ := zwB_top (w := M.1 139) hn2 hw
  have f27 := pvu_n e1 124 27 (Or.inr (by decide))
  have f28 := pvu_s e1
  have f17 := pvu_n e1 124 17 (Or.inr (by decide))
  have r8 := pvu_row e1 (a := 138) (by decide)
  have r9 := pvu_row e1 (a := 139) (by decide)
  rw [f28, r9] at c2
  generalize ht2 : M.1 139 (M.1 124 28 - 1).toNatClampNeg = t at ht k3 c2
  have hneg : (-t).toInt = -t.toInt := pvneg t (by omega)
  refine zG_put (v := -t) (n := m + 1) (n' := m) h hn2 ?_ ?_ ?_ ?_ ?_ ?_ ?_ ?_ ?_
  · rw [c1, f27, zadd_1 _ (by omega)]
  · rw [c2, r8, f27]
  · rw [c3, r9]
  · rw [c4, f28, k2]
  · rw [c5, f17]
    omega
  · rw [c5, f17]
    omega
  · intro q
    omega
  · intro _ _
    have := zwB_0 (M.1 139) m
    rw [k3, if_pos ht]
    omega
  · rw [if_neg (by omega), if_pos (by omega), k3, if_pos ht]
    omega
theorem zG_test {g : Nat → Int32} {f a : Nat} {M X X1 : pvM} {v : Int32} (h : zG g f a 0 M) (c27 : X.1 124 27 = M.1 124 27) (c28 : X.1 124 28 = M.1 124 28) (r138 : X.1 138 = M.1 138) (r139 : X.1 139 = M.1 139) (ha : (M.1 124 17).toInt + 1 ≤ (X.1 124 17).toInt) (hb : (X.1 124 17).toInt ≤ 100) (d : X1 = zpe X v) (hv : 0 ≤ v.toInt) : zG g f a 1 X1 := by
  have h' := zG_t h c27 c28 r138 r139 (by omega) hb
  have hn := zG_n h
  have hn' := zG_n h'
  obtain ⟨c1, c2, c3, c4, c5⟩ := zpe_c d
  obtain ⟨s, n, -, -, -, -, hn2, -⟩ := id h'
  refine zG_put (v := v) (n := n) (n' := n) h' hn2 (by rw [c1, zadd_1 _ (by omega)]) c2 c3 (by rw [c4, hn2]) ?_ (by rw [c5]; exact hb) (fun q => by omega) (fun _ q => by omega) ?_
  · rw [c5]
    rw [c27, ← hn2, c28]
    omega
  · rw [if_neg (by omega), if_neg (by omega)]
    omega
theorem zG_p {g : Nat → Int32} {f a : Nat} {e e' : Int} {M X : pvM} {b : Int32} (h : zG g f a e M) (c27 : X.1 124 27 = M.1 124 27) (r138 : X.1 138 = M.1 138) (r139 : X.1 139 = upd (M.1 139) (M.1 124 28).toNatClampNeg b) (c28 : (X.1 124 28).toInt = (M.1 124 28).toInt + 1) (c17 : (X.1 124 17).toInt = (M.1 124 17).toInt + 1) (hb : (X.1 124 17).toInt ≤ 100) (hB : e' = e - (if b.toInt = 38 ∨ b.toInt = 124 then 1 else 0)) : zG g f a e' X := by
  obtain ⟨s, n, h1, h2, h3, h4, h5, h6, h7, h8, h9, h10⟩ := h
  rw [znat h5] at r139
  refine ⟨s, n + 1, h1, h2, h3, by rw [c27]; exact h4, by omega, by omega, hb, by rw [r138]; exact h8, by rw [r138]; exact h9, ?_⟩
  rw [r138, r139, h10, hB]
  show _ = zwB _ n + _ + _
  rw [zupd_s, zwB_c (f := upd (M.1 139) n b) (g := M.1 139) (fun k hk => zupd_n _ _ _ (by omega))]
  omega
def zTp (M : pvM) : Prop := (M.1 124 28).toInt ≤ 0 ∨ ¬ ((M.1 139 (M.1 124 28 - 1).toNatClampNeg).toInt = 38 ∨ (M.1 139 (M.1 124 28 - 1).toNatClampNeg).toInt = 124)
theorem zG_pop {g : Nat → Int32} {f a : Nat} {M X : pvM} (h : zG g f a 1 M) (ht : zTp M) (hw : ¬ (M.1 124 28).toInt = 0) (c27 : X.1 124 27 = M.1 124 27) (r138 : X.1 138 = M.1 138) (r139 : X.1 139 = M.1 139) (c28 : (X.1 124 28).toInt = (M.1 124 28).toInt - 1) (c17 : (X.1 124 17).toInt = (M.1 124 17).toInt + 1) (hb : (X.1 124 17).toInt ≤ 100) : zG g f a 1 X := by
  obtain ⟨s, n, h1, h2, h3, h4, h5, h6, h7, h8, h9, h10⟩ := h
  obtain ⟨m, rfl, k1, k2, k3⟩ := zwB_top (w := M.1 139) h5 (by omega)
  have ht : ¬ ((M.1 139 (M.1 124 28 - 1).toNatClampNeg).toInt = 38 ∨ (M.1 139 (M.1 124 28 - 1).toNatClampNeg).toInt = 124) := by
    rcases ht with ht | ht
    · omega
    · exact ht
  rw [if_neg ht] at k3
  exact ⟨s, m, h1, h2, h3, by rw [c27]; exact h4, by omega, by omega, hb, by rw [r138]; exact h8, by rw [r138]; exact h9, by rw [r138, r139, h10, k3]; omega⟩
/-! clauses: what else stays -/
def zFT (M X : pvM) (c : Nat) : Prop := ∀ k, k ≠ c → X.1 136 k = M.1 136 k ∧ X.1 137 k = M.1 137 k
def zR (M X : pvM) (c : Nat) : Prop := zFT M X c ∧ ∀ k : Nat, (k : Int) < (M.1 124 27).toInt → X.1 138 k = M.1 138 k
def zEI (M X : pvM) (f c : Nat) (e : Int) : Prop := zG (M.1 138) f (M.1 124 27).toNatClampNeg e X ∧ zFT M X c ∧ X.1 136 c = M.1 124 27 ∧ 0 ≤ (M.1 124 27).toInt
theorem zEI_R {M X : pvM} {f c : Nat} {e : Int} (h : zEI M X f c e) : zR M X c := by
  obtain ⟨⟨s, n, h1, h2, h3, h4, h5, h6, h7, h8, h9, h10⟩, g1, g2, g3⟩ := h
  have := ztn _ g3
  exact ⟨g1, fun k hk => h8 k (by omega)⟩
theorem zEI_g {M X Y : pvM} {f c : Nat} {e e' : Int} (h : zEI M X f c e) (r136 : Y.1 136 = X.1 136) (r137 : Y.1 137 = X.1 137) (h' : zG (M.1 138) f (M.1 124 27).toNatClampNeg e' Y) : zEI M Y f c e' := ⟨h', fun k hk => by rw [r136, r137]; exact h.2.1 k hk, by rw [r136]; exact h.2.2.1, h.2.2.2⟩
theorem zEI_to {M X Y : pvM} {f c : Nat} {e : Int} {v : Int32} (h : zEI M X f c e) (d : Y = pvu X 137 c v) : zEI M Y f c e := by
  have hr : ∀ q, q ≠ 137 → Y.1 q = X.1 q := fun q hq => pvu_row d hq
  refine ⟨?_, fun k hk => ?_, by rw [hr 136 (by decide)]; exact h.2.2.1, h.2.2.2⟩
  · have hn := zG_n h.1
    exact zG_t h.1 (by rw [hr 124 (by decide)]) (by rw [hr 124 (by decide)]) (hr 138 (by decide)) (hr 139 (by decide)) (by rw [hr 124 (by decide)]; exact Int.le_refl _) (by rw [hr 124 (by decide)]; exact hn.2.2.1)
  · rw [hr 136 (by decide), pvu_self d, zupd_n _ _ _ hk]
    exact h.2.1 k hk
theorem zEI_0 {M X : pvM} {f c : Nat} (h : zTx f M) (c27 : X.1 124 27 = M.1 124 27) (c28 : X.1 124 28 = 0) (c17 : X.1 124 17 = M.1 124 17) (r138 : X.1 138 = M.1 138) (r137 : X.1 137 = M.1 137) (r136 : X.1 136 = upd (M.1 136) c (M.1 124 27)) : zEI M X f c 0 := by
  obtain ⟨h1, h2, h3, h4⟩ := h
  have e := ztn (M.1 124 27) (by omega)
  have e0 : (0 : Int32).toInt = 0 := by decide
  refine ⟨⟨(M.1 124 27).toNatClampNeg, 0, by omega, Nat.le_refl _, h1, by rw [c27]; omega, by rw [c28]; exact e0, by rw [c17]; omega, by rw [c17]; exact h4, fun k _ => by rw [r138], ?_, ?_⟩, fun k hk => ?_, by rw [r136, zupd_s], by omega⟩
  · rw [Nat.sub_self]
    exact fun k hk => absurd hk (Nat.not_lt_zero _)
  · rw [Nat.sub_self]
    rfl
  · rw [r136, r137, zupd_n _ _ _ hk]
    exact ⟨rfl, rfl⟩
def zEnd (f c : Nat) (X : pvM) : Prop := zTx f X ∧ pvWc X c ∧ (X.1 137 c).toInt ≤ (f : Int) + 100 ∧ (X.1 137 c).toInt ≤ (X.1 124 27).toInt
theorem zEI_end {M X : pvM} {f c : Nat} (h : zEI M X f c 1) (hto : X.1 137 c = X.1 124 27) : zEnd f c X := by
  obtain ⟨⟨s, n, h1, h2, h3, h4, h5, h6, h7, h8, h9, h10⟩, g1, g2, g3⟩ := h
  have e := ztn _ g3
  refine ⟨⟨h3, by omega, by omega, h7⟩, ⟨(M.1 124 27).toNatClampNeg, s, by rw [g2]; omega, by rw [hto]; exact h4, h2, by omega, by omega, h9⟩, by rw [hto]; omega, by rw [hto]; exact Int.le_refl _⟩
/-! a clause -/
def zR2 (M X : pvM) (c : Nat) : Prop := zR M X c ∧ ∀ k, k ≠ c → X.1 134 k = M.1 134 k
theorem zR2_0 {M X : pvM} {c : Nat} (r136 : X.1 136 = M.1 136) (r137 : X.1 137 = M.1 137) (r138 : X.1 138 = M.1 138) (r134 : ∀ k, k ≠ c → X.1 134 k = M.1 134 k) : zR2 M X c := ⟨⟨fun k _ => by rw [r136, r137]; exact ⟨rfl, rfl⟩, fun k _ => by rw [r138]⟩, r134⟩
theorem zR2_t {M X Y : pvM} {c : Nat} (h : zR X Y c) (r136 : X.1 136 = M.1 136) (r137 : X.1 137 = M.1 137) (r138 : X.1 138 = M.1 138) (r134 : ∀ k, k ≠ c → Y.1 134 k = M.1 134 k) (c27 : X.1 124 27 = M.1 124 27) : zR2 M Y c := by
  refine ⟨⟨fun k hk => ?_, fun k hk => ?_⟩, r134⟩
  · have := h.1 k hk
    rw [r136, r137] at this
    exact this
  · have := h.2 k (by rw [c27]; exact hk)
    rw [r138] at this
    exact this
theorem zT_t {f : Nat} {M X : pvM} (h : zTx f M) (c27 : X.1 124 27 = M.1 124 27) (ha : (M.1 124 17).toInt ≤ (X.1 124 17).toInt) (hb : (X.1 124 17).toInt ≤ 100) : zTx f X := by
  obtain ⟨h1, h2, h3, h4⟩ := h
  exact ⟨h1, by rw [c27]; exact h2, by rw [c27]; omega, hb⟩
theorem pvWc_t {M X : pvM} {c : Nat} (h : pvWc M c) (h6 : X.1 136 c = M.1 136 c) (h7 : X.1 137 c = M.1 137 c) {b : Int} (h8 : ∀ k : Nat, (k : Int) < b → X.1 138 k = M.1 138 k) (hb : (M.1 137 c).toInt ≤ b) : pvWc X c := by
  obtain ⟨x, y, h1, h2, h3, h4, h5, hz⟩ := h
  exact ⟨x, y, by rw [h6]; exact h1, by rw [h7]; exact h2, h3, h4, h5, zok_c (fun k hk => (h8 _ (by omega)).symm) hz⟩
def zGL (M X : pvM) (f n : Nat) : Prop := zTx (100 * f) X ∧ (∀ k, k < 10 * f → X.1 134 k = M.1 134 k ∧ X.1 136 k = M.1 136 k ∧ X.1 137 k = M.1 137 k) ∧ (∀ k, k < 100 * f → X.1 138 k = M.1 138 k) ∧ (∀ k, k ≠ f → X.1 133 k = M.1 133 k) ∧ ∀ c, 10 * f ≤ c → c < 10 * f + n → (X.1 134 c).toInt < 2 → pvWc X c ∧ (X.1 137 c).toInt ≤ 100 * (f : Int) + 100 ∧ (X.1 137 c).toInt ≤ (X.1 124 27).toInt
/-- what is kept of the houses ahead -/
def zGK (M X : pvM) (f : Nat) : Prop := ∀ h : Nat, h < f → (M.1 133 h).toInt ≤ 10 → pvWh M h → pvWh X h
theorem zGK_of {M X : pvM} {f : Nat} (hr : ∀ k, k < 10 * f → X.1 134 k = M.1 134 k ∧ X.1 136 k = M.1 136 k ∧ X.1 137 k = M.1 137 k) (h8 : ∀ k, k < 100 * f → X.1 138 k = M.1 138 k) (h3 : ∀ k, k ≠ f → X.1 133 k = M.1 133 k) : zGK M X f := fun h hf h10 hw c hc1 hc2 hc3 => by
  rw [h3 h (by omega)] at hc2
  obtain ⟨g1, g2, g3⟩ := hr c (by omega)
  rw [g1] at hc3
  obtain ⟨k1, k2⟩ := hw c hc1 hc2 hc3
  rw [g3]
  exact ⟨pvWc_t k1 g2 g3 (b := 100 * (f : Int)) (fun k hk => h8 k (by omega)) (by omega), k2⟩
theorem zGL_s {M X Y : pvM} {f n : Nat} (h : zGL M X f n) (hR : zR2 X Y (10 * f + n)) (r133 : Y.1 133 = X.1 133) (hT : zTx (100 * f) Y) (hE : (Y.1 134 (10 * f + n)).toInt < 2 → zEnd (100 * f) (10 * f + n) Y) (hs : (X.1 124 27).toInt ≤ (Y.1 124 27).toInt) : zGL M Y f (n + 1) := by
  obtain ⟨h1, h2, h3, h4, h5⟩ := h
  obtain ⟨⟨q1, q2⟩, q3⟩ := hR
  obtain ⟨t1, t2, t3, t4⟩ := id h1
  refine ⟨hT, fun k hk => ?_, fun k hk => ?_, fun k hk => ?_, fun c hc1 hc2 hc3 => ?_⟩
  · have a := h2 k hk
    have b := q1 k (by omega)
    rw [q3 k (by omega), b.1, b.2]
    exact a
  · rw [q2 k (by omega)]
    exact h3 k hk
  · rw [r133]
    exact h4 k hk
  · by_cases e : c = 10 * f + n
    · subst e
      obtain ⟨-, k1, k2, k3⟩ := hE hc3
      exact ⟨k1, by omega, k3⟩
    · rw [q3 c e] at hc3
      obtain ⟨k1, k2, k3⟩ := h5 c hc1 (by omega) hc3
      have b := q1 c e
      rw [b.2]
      exact ⟨pvWc_t k1 b.1 b.2 q2 k3, k2, by omega⟩
theorem zGL_cl {M X Y : pvM} {f n : Nat} {v : Int32} (h : zGL M X f n) (d : Y = pvu X 133 f v) : zGL M Y f n := by
  have hr : ∀ q, q ≠ 133 → Y.1 q = X.1 q := fun q hq => pvu_row d hq
  unfold zGL zTx pvWc at *
  rw [hr 124 (by decide), hr 134 (by decide), hr 136 (by decide), hr 137 (by decide), hr 138 (by decide)]
  refine ⟨h.1, h.2.1, h.2.2.1, fun k hk => ?_, h.2.2.2.2⟩
  rw [pvu_self d, zupd_n _ _ _ hk]
  exact h.2.2.2.1 k hk
theorem zGL_at {M X Y : pvM} {f n : Nat} (h : zGL M X f n) (r133 : Y.1 133 = X.1 133) (r134 : Y.1 134 = X.1 134) (r136 : Y.1 136 = X.1 136) (r137 : Y.1 137 = X.1 137) (r138 : Y.1 138 = X.1 138) (c27 : Y.1 124 27 = X.1 124 27) (ha : (X.1 124 17).toInt ≤ (Y.1 124 17).toInt) (hb : (Y.1 124 17).toInt ≤ 100) : zGL M Y f n := by
  refine ⟨zT_t h.1 c27 ha hb, ?_⟩
  unfold pvWc
  rw [r133, r134, r136, r137, r138, c27]
  exact h.2
theorem zGL_end {M X : pvM} {f n : Nat} (h : zGL M X f n) (hc : (X.1 133 f).toInt = (n : Int)) : pvWh X f := fun c h1 h2 h3 => by
  obtain ⟨k1, k2, k3⟩ := h.2.2.2.2 c h1 (by omega) h3
  exact ⟨k1, k2⟩
theorem pvno : ¬ ((some (pvI 0) : Option pvV) = some (pvI 1)) := by
  intro h
  injection h with h
  injection h with h
  exact absurd h (by decide)
theorem pvyes {x : Int32} (h : x.toInt = 1) : (some (pvI x) : Option pvV) = some (pvI 1) := by
  rw [show x = 1 from (zi_eq _ _).mpr (h.trans (by decide))]
theorem pvtoI {x : Int32} {n : Int32} (h : ¬ x = n) : ¬ x.toInt = n.toInt := fun z => h ((zi_eq _ _).mpr z)
theorem zEI_e {M X : pvM} {f c : Nat} {e e' : Int} (h : e = e') (k : zEI M X f c e) : zEI M X f c e' := h ▸ k
theorem zG_eq {g : Nat → Int32} {f a : Nat} {e e' : Int} {M : pvM} (h : e = e') (k : zG g f a e M) : zG g f a e' M := h ▸ k
theorem zG_r {g : Nat → Int32} {f a : Nat} {e : Int} {M : pvM} (h : zG g f a e M) : ∀ k, k < a → M.1 138 k = g k := by
  obtain ⟨s, n, h1, h2, h3, h4, h5, h6, h7, h8, h9, h10⟩ := h
  exact h8
theorem zR_tt {M X Y : pvM} {f c : Nat} {e : Int} (h : zEI M X f c e) (r136 : Y.1 136 = X.1 136) (r137 : Y.1 137 = X.1 137) (h8 : ∀ k, k < (M.1 124 27).toNatClampNeg → Y.1 138 k = M.1 138 k) : zR M Y c := by
  have e := ztn _ h.2.2.2
  exact ⟨fun k hk => by rw [r136, r137]; exact h.2.1 k hk, fun k hk => h8 k (by omega)⟩
theorem zTp_t {M X : pvM} (h : zTp M) (c28 : X.1 124 28 = M.1 124 28) (r139 : X.1 139 = M.1 139) : zTp X := by
  unfold zTp
  rw [c28, r139]
  exact h
theorem zEI_m {M X : pvM} {f c : Nat} {e : Int} (h : zEI M X f c e) : (M.1 124 27).toInt ≤ (X.1 124 27).toInt := by
  have e := ztn _ h.2.2.2
  have := (zG_n h.1).1.2.2.2.1
  omega
theorem zGL_0 {M X : pvM} {f : Nat} (hf : f ≤ 5) (c27 : (X.1 124 27).toInt = 100 * (f : Int)) (c17 : (X.1 124 17).toInt = 0) (r133 : X.1 133 = M.1 133) (r134 : X.1 134 = M.1 134) (r136 : X.1 136 = M.1 136) (r137 : X.1 137 = M.1 137) (r138 : X.1 138 = M.1 138) : zGL M X f (Int32.toNatClampNeg 0) := by
  refine ⟨⟨by omega, by omega, by omega, by omega⟩, fun k _ => by rw [r134, r136, r137]; exact ⟨rfl, rfl, rfl⟩, fun k _ => by rw [r138], fun k _ => by rw [r133], fun c h1 h2 => ?_⟩
  rw [show Int32.toNatClampNeg 0 = 0 from by decide] at h2
  omega
theorem zGL_k {M X : pvM} {f n : Nat} (h : zGL M X f n) : zGK M X f ∧ ∀ k, k ≠ f → X.1 133 k = M.1 133 k := ⟨zGK_of h.2.1 h.2.2.1 h.2.2.2.1, h.2.2.2.1⟩
theorem zGL_f {M X Y : pvM} {f n : Nat} (h : zGL M X f n) (hR : zR2 X Y (10 * f + n)) (r133 : Y.1 133 = X.1 133) : zGK M Y f ∧ ∀ k, k ≠ f → Y.1 133 k = M.1 133 k := by
  obtain ⟨h1, h2, h3, h4, h5⟩ := h
  obtain ⟨⟨q1, q2⟩, q3⟩ := hR
  obtain ⟨t1, t2, t3, t4⟩ := h1
  have r3 : ∀ k, k ≠ f → Y.1 133 k = M.1 133 k := fun k hk => by rw [r133]; exact h4 k hk
  refine ⟨zGK_of (fun k hk => ?_) (fun k hk => ?_) r3, r3⟩
  · have a := h2 k hk
    have b := q1 k (by omega)
    rw [q3 k (by omega), b.1, b.2]
    exact a
  · rw [q2 k (by omega)]
    exact h3 k hk
/-- clause f's number n, as numbers -/
theorem zcno {a x y : Int32} (ha : a.toInt = 10 * x.toInt + y.toInt) (hx : 0 ≤ x.toInt) (hy : 0 ≤ y.toInt) : a.toNatClampNeg = 10 * x.toNatClampNeg + y.toNatClampNeg := by
  have h1 := ztn x hx
  have h2 := ztn y hy
  have h3 := ztn a (by omega)
  omega
theorem pvWh_r {M X : pvM} {h : Nat} (r133 : X.1 133 = M.1 133) (r134 : X.1 134 = M.1 134) (r136 : X.1 136 = M.1 136) (r137 : X.1 137 = M.1 137) (r138 : X.1 138 = M.1 138) (k : pvWh M h) : pvWh X h := by
  unfold pvWh pvWc
  rw [r133, r134, r136, r137, r138]
  exact k
theorem pvWF_h {M X : pvM} (hok : pvOk M) (h : pvWF M) (hk : zGK M X (M.1 124 14).toNatClampNeg) (hX : ∀ a : Nat, (a : Int) < (X.1 124 14).toInt → (a : Int) < (M.1 124 14).toInt ∨ pvWh X a) (ht : (X.1 124 15).toInt < (X.1 124 14).toInt) (hi : (X.1 124 47).toInt < (X.1 124 14).toInt) : pvWF X := by
  refine ⟨ht, hi, fun a ha => ?_⟩
  rcases hX a ha with h1 | h1
  · have hb := pvok_r hok 124 14 (lo := 0) (hi := 6) rfl
    have e := ztn (M.1 124 14) hb.1
    have hc := pvok_r hok 133 a (lo := 0) (hi := 10) rfl
    exact hk a (by omega) hc.2 (h.2.2 a h1)
  · exact h1
