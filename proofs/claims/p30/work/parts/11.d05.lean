/-! the tapes' numbers -/
theorem pw_callJe {j d : Nat} {Q : Option pvV → pvM → Prop} {L : List (Nat × pvO)} {pc a b c dd nx d1 : Nat} {lo lo1 : List (Option pvV)} {st rest as : List pvV} {M : pvM} {W : Int64} (hT : pvdom j = L) (ho : pvlook L pc = (80, a, b, c, dd, 0, nx)) (hst : st.take c = as.reverse) (hrest : st.drop c = rest) (hlen : Nat.ble rest.length 4 = true) (hcl : Nat.ble c st.length = true) (hr : dd % 2 = 1 → pvrcv b as) (hd : dd / 2 ≤ d) (hd1 : d - dd / 2 = d1) (hsl : Nat.ble (pvsl as).length (pvml b) = true) (hlo : pvent (pvml b) as = lo1)
    (h1 : PW b d1 (0, lo1, [], M) (fun r X => (∃ x : Int64, r = some (pvJ x) ∧ x = W) ∧ X = M)) (k : PW j d (nx, lo, pvJ W :: rest, M) Q) : PW j d (pc, lo, st, M) Q :=
  pw_call hT ho hst hrest hlen hcl hr hd hd1 hsl hlo h1 (fun r1 M1 h => by obtain ⟨⟨x, rfl, rfl⟩, rfl⟩ := h; exact k)
theorem zw_s {M X : pvM} {q k : Nat} {x : Int64} (e : X = pvw M q k x) : X.2 q k = x := by
  rw [e]
  show (if q = q then vp_updL (M.2 q) k x else M.2 q) k = x
  rw [if_pos rfl]
  unfold vp_updL
  rw [if_pos rfl]
theorem zw_n {M X : pvM} {q k : Nat} {x : Int64} (e : X = pvw M q k x) (a b : Nat) (h : a ≠ q ∨ b ≠ k) : X.2 a b = M.2 a b := by
  rw [e]
  show (if a = q then vp_updL (M.2 q) k x else M.2 a) b = M.2 a b
  by_cases c : a = q
  · rw [if_pos c]
    unfold vp_updL
    rw [if_neg (by rcases h with h | h; exact absurd c h; exact h), c]
  · rw [if_neg c]
theorem zu2 {M X : pvM} {q k : Nat} {v : Int32} (e : X = pvu M q k v) : X.2 = M.2 := by rw [e]; rfl
/-- become: the first so many are 0, the other tapes' are kept -/
def zLb (p n : Nat) (M X : pvM) : Prop := (∀ i : Nat, i < n → X.2 p i = 0) ∧ ∀ q i : Nat, q ≠ p → X.2 q i = M.2 q i
theorem zLb_0 {p : Nat} {M X : pvM} (h : X.2 = M.2) : zLb p (Int32.toNatClampNeg 0) M X := ⟨fun i hi => absurd hi (Nat.not_lt_zero i), fun q i _ => by rw [h]⟩
theorem zLb_w {p n : Nat} {M Y X : pvM} (h : zLb p n M Y) (e : X = pvw Y p n 0) : zLb p (n + 1) M X := by
  refine ⟨fun i hi => ?_, fun q i hq => (zw_n e q i (Or.inl hq)).trans (h.2 q i hq)⟩
  by_cases c : i = n
  · subst c
    exact zw_s e
  · exact (zw_n e p i (Or.inr c)).trans (h.1 i (by omega))
theorem zLb_n {p n n' : Nat} {M X : pvM} (e : n' = n) (h : zLb p n M X) : zLb p n' M X := e ▸ h
/-- tape of the class: refused, or the tape's numbers are 0 as far as it is long -/
def zTP9 (n1 : Int32) (r : Option pvV) (M X : pvM) : Prop := ∃ x : Int32, r = some (pvI x) ∧ ((x.toInt < 0 ∧ X.2 = M.2 ∧ ∀ t : Nat, t < 6 → X.1 (88 + t) 0 = M.1 (88 + t) 0 ∧ X.1 (88 + t) 1 = M.1 (88 + t) 1) ∨ (0 ≤ x.toInt ∧ ∃ t : Nat, t < 6 ∧ t = Int32.toNatClampNeg n1 ∧ (X.1 (88 + t) 0 = -1 → X.1 (88 + t) 1 = 0) ∧ zLb (94 + t) (Int32.toNatClampNeg (X.1 (88 + t) 1)) M X ∧ ∀ t' : Nat, t' < 6 → t' ≠ t → X.1 (88 + t') 0 = M.1 (88 + t') 0 ∧ X.1 (88 + t') 1 = M.1 (88 + t') 1))
/-- tape of the reference: refused, or all sixty of the tape's are 0 -/
def zTL (T n : Nat) (M X : pvM) : Prop := (∀ i : Nat, i < n → X.2 166 (60 * T + i) = 0) ∧ ∀ q i : Nat, (q ≠ 166 ∨ i < 60 * T ∨ 60 * T + 60 ≤ i) → X.2 q i = M.2 q i
theorem zTL_0 {T : Nat} {M X : pvM} (h : X.2 = M.2) : zTL T (Int32.toNatClampNeg 0) M X := ⟨fun i hi => absurd hi (Nat.not_lt_zero i), fun q i _ => by rw [h]⟩
theorem zTL_w {T n k : Nat} {M Y X : pvM} (h : zTL T n M Y) (hn : n < 60) (hk : k = 60 * T + n) (e : X = pvw Y 166 k 0) : zTL T (n + 1) M X := by
  subst hk
  refine ⟨fun i hi => ?_, fun q i hq => (zw_n e q i (by rcases hq with h | h | h; exact Or.inl h; exact Or.inr (by omega); exact Or.inr (by omega))).trans (h.2 q i hq)⟩
  by_cases c : i = n
  · subst c
    exact zw_s e
  · exact (zw_n e 166 _ (Or.inr (by omega))).trans (h.1 i (by omega))
theorem zTL_n {T n n' : Nat} {M X : pvM} (e : n' = n) (h : zTL T n M X) : zTL T n' M X := e ▸ h
theorem zk60 {n1 k : Int32} (h1 : 0 ≤ n1.toInt ∧ n1.toInt ≤ 5) (h2 : 0 ≤ k.toInt ∧ k.toInt ≤ 59) : Int32.toNatClampNeg ((60 * n1) + k) = 60 * Int32.toNatClampNeg n1 + Int32.toNatClampNeg k := by
  have u6 : (60 : Int32).toInt = 60 := by decide
  have a1 : (60 * n1).toInt = 60 * n1.toInt := by rw [zmul 60 n1 (by rw [u6]; omega) (by rw [u6]; omega), u6]
  show ((60 * n1) + k).toInt.toNat = 60 * n1.toInt.toNat + k.toInt.toNat
  rw [zadd (60 * n1) k (by omega) (by omega), a1]
  omega
def zTP10 (n1 : Int32) (r : Option pvV) (M X : pvM) : Prop := ∃ x : Int32, r = some (pvI x) ∧ ((x.toInt < 0 ∧ X.2 = M.2) ∨ (0 ≤ x.toInt ∧ zTL (Int32.toNatClampNeg n1) 60 M X))
/-- of both sides: no sort, no length; the numbers are the same -/
def zLZ (M : pvM) : Prop := ∀ t : Nat, t < 6 → M.1 (88 + t) 0 = -1 → M.1 (88 + t) 1 = 0
def zL2 (M : pvM) : Prop := ∀ t : Nat, t < 6 → ∀ i : Nat, i < 60 → (i : Int) < (M.1 (88 + t) 1).toInt → M.2 (94 + t) i = M.2 166 (60 * t + i)
def zLcc (M X : pvM) : Prop := ∀ t : Nat, t < 6 → X.1 (88 + t) 0 = M.1 (88 + t) 0 ∧ X.1 (88 + t) 1 = M.1 (88 + t) 1
theorem zLZ_k {M X : pvM} (h : zLZ M) (c : zLcc M X) : zLZ X := fun t ht e => by
  rw [(c t ht).2]
  exact h t ht ((c t ht).1.symm.trans e)
theorem zL2_k {M Y X : pvM} (h : zL2 M) (c : zLcc M X) (a : Y.2 = M.2) (b : X.2 = Y.2) : zL2 X := fun t ht i hi hl => by
  rw [(c t ht).2] at hl
  rw [b, a]
  exact h t ht i hi hl
theorem zLZ_t {n1 r r2 : Int32} {M Y X : pvM} (h : zLZ M) (g9 : zTP9 n1 (some (pvI r)) M Y) (c : zLcc Y X) : zLZ X := by
  refine zLZ_k ?_ c
  obtain ⟨x9, e9, g9⟩ := g9
  rcases g9 with ⟨-, -, k⟩ | ⟨-, t, ht, -, z, -, k⟩
  · exact zLZ_k h k
  · intro s hs e
    by_cases q : s = t
    · subst q
      exact z e
    · rw [(k s hs q).2]
      exact h s hs ((k s hs q).1.symm.trans e)
theorem zL2_t {n1 r r2 : Int32} {M Y X : pvM} (h : zL2 M) (hr : ∀ t : Nat, t < 6 → 0 ≤ (Y.1 (88 + t) 1).toInt ∧ (Y.1 (88 + t) 1).toInt ≤ 60) (er : r = r2) (g9 : zTP9 n1 (some (pvI r)) M Y) (c : zLcc Y X) (g10 : zTP10 n1 (some (pvI r2)) Y X) : zL2 X := by
  subst er
  obtain ⟨x9, e9, g9⟩ := g9
  obtain ⟨x10, e10, g10⟩ := g10
  have q9 : r = x9 := Sum.inl.inj (Option.some.inj e9)
  have q10 : r = x10 := Sum.inl.inj (Option.some.inj e10)
  subst q9
  subst q10
  rcases g9 with ⟨a, b, k⟩ | ⟨a, t, ht, e, -, b, k⟩
  · rcases g10 with ⟨a2, b2⟩ | ⟨a2, b2⟩
    · exact zL2_k h (fun t ht => ⟨((c t ht).1).trans (k t ht).1, ((c t ht).2).trans (k t ht).2⟩) b b2
    · omega
  · rcases g10 with ⟨a2, b2⟩ | ⟨a2, b2⟩
    · omega
    · rw [← e] at b2
      intro s hs i hi hl
      rw [(c s hs).2] at hl
      by_cases q : s = t
      · subst q
        rw [b2.1 i hi, b2.2 (94 + s) i (Or.inl (by omega))]
        exact b.1 i (show i < (Y.1 (88 + s) 1).toInt.toNat by omega)
      · rw [(k s hs q).2] at hl
        rw [b2.2 (94 + s) i (Or.inl (by omega)), b2.2 166 (60 * s + i) (Or.inr (by omega)), b.2 (94 + s) i (by omega), b.2 166 (60 * s + i) (by omega)]
        exact h s hs i hi hl
/-- item: refused, or one number is put -/
def zI9 (p k : Nat) (W : Int64) (M X : pvM) : Prop := ∀ q i : Nat, X.2 q i = if q = p ∧ i = k then W else M.2 q i
theorem zI9_w {p k : Nat} {W : Int64} {M X : pvM} (e : X = pvw M p k W) : zI9 p k W M X := by
  intro q i
  by_cases c : q = p ∧ i = k
  · rw [if_pos c, c.1, c.2]
    exact zw_s e
  · rw [if_neg c]
    exact zw_n e q i (by omega)
def zIT (F : Int32 → Int32 → Nat × Nat) (n1 n2 : Int32) (W : Int64) (r : Option pvV) (M X : pvM) : Prop := ∃ x : Int32, r = some (pvI x) ∧ ((x.toInt < 0 ∧ X.2 = M.2) ∨ (0 ≤ x.toInt ∧ (0 ≤ n1.toInt ∧ n1.toInt ≤ 5) ∧ (0 ≤ n2.toInt ∧ n2.toInt ≤ 59) ∧ zI9 (F n1 n2).1 (F n1 n2).2 W M X))
def zF9 (n1 n2 : Int32) : Nat × Nat := (94 + Int32.toNatClampNeg n1, Int32.toNatClampNeg n2)
def zF10 (n1 n2 : Int32) : Nat × Nat := (166, 60 * Int32.toNatClampNeg n1 + Int32.toNatClampNeg n2)
theorem zL2_i {n1 n2 r r2 : Int32} {W W2 : Int64} {M Y X : pvM} (h : zL2 M) (er : r = r2) (ew : 0 ≤ n1.toInt ∧ n1.toInt ≤ 5 → W = W2) (c9 : zLcc M Y) (g9 : zIT zF9 n1 n2 W (some (pvI r)) M Y) (c : zLcc Y X) (g10 : zIT zF10 n1 n2 W2 (some (pvI r2)) Y X) : zL2 X := by
  subst er
  obtain ⟨x9, e9, g9⟩ := g9
  obtain ⟨x10, e10, g10⟩ := g10
  have q9 : r = x9 := Sum.inl.inj (Option.some.inj e9)
  have q10 : r = x10 := Sum.inl.inj (Option.some.inj e10)
  subst q9
  subst q10
  have cc : zLcc M X := fun t ht => ⟨((c t ht).1).trans (c9 t ht).1, ((c t ht).2).trans (c9 t ht).2⟩
  rcases g9 with ⟨a, b⟩ | ⟨a, h1, h2, b⟩
  · rcases g10 with ⟨a2, b2⟩ | ⟨a2, -, -, b2⟩
    · exact zL2_k h cc b b2
    · omega
  · rcases g10 with ⟨a2, b2⟩ | ⟨a2, -, -, b2⟩
    · omega
    · have ew := ew h1
      subst ew
      intro s hs i hi hl
      rw [(cc s hs).2] at hl
      have t1 : Int32.toNatClampNeg n1 < 6 := by
        show n1.toInt.toNat < 6
        omega
      have t2 : Int32.toNatClampNeg n2 < 60 := by
        show n2.toInt.toNat < 60
        omega
      rw [b2 (94 + s) i, b2 166 (60 * s + i), b (94 + s) i, b 166 (60 * s + i)]
      unfold zF9 zF10
      dsimp only
      rw [if_neg (show ¬ (94 + s = 166 ∧ i = 60 * Int32.toNatClampNeg n1 + Int32.toNatClampNeg n2) by omega), if_neg (show ¬ (166 = 94 + Int32.toNatClampNeg n1 ∧ 60 * s + i = Int32.toNatClampNeg n2) by omega)]
      by_cases q : s = Int32.toNatClampNeg n1 ∧ i = Int32.toNatClampNeg n2
      · rw [if_pos (by omega), if_pos (by omega)]
      · rw [if_neg (by omega), if_neg (by omega)]
        exact h s hs i hi hl
/-- shift: refused, or so many numbers of a tape go to another, as they were -/
def zSH9 (n1 n2 n3 n4 n5 : Int32) (r : Option pvV) (M X : pvM) : Prop := ∃ x : Int32, r = some (pvI x) ∧ ((x.toInt < 0 ∧ X.2 = M.2) ∨ (0 ≤ x.toInt ∧ (0 ≤ n1.toInt ∧ n1.toInt ≤ 5) ∧ (0 ≤ n3.toInt ∧ n3.toInt ≤ 5) ∧ (0 ≤ n2.toInt ∧ 0 ≤ n4.toInt ∧ 0 ≤ n5.toInt) ∧ n2.toInt + n5.toInt ≤ (M.1 (88 + Int32.toNatClampNeg n1) 1).toInt ∧ n4.toInt + n5.toInt ≤ (M.1 (88 + Int32.toNatClampNeg n3) 1).toInt ∧ ∀ q i : Nat, X.2 q i = if q = 94 + Int32.toNatClampNeg n3 ∧ Int32.toNatClampNeg n4 ≤ i ∧ i < Int32.toNatClampNeg n4 + Int32.toNatClampNeg n5 then M.2 (94 + Int32.toNatClampNeg n1) (Int32.toNatClampNeg n2 + (i - Int32.toNatClampNeg n4)) else M.2 q i))
def zSHk (A B C D n : Nat) (M X : pvM) : Prop := ∀ q i : Nat, q ≠ 167 → X.2 q i = if q = 166 ∧ 60 * C + D ≤ i ∧ i < 60 * C + D + n then M.2 166 (60 * A + B + (i - (60 * C + D))) else M.2 q i
def zSH10 (n1 n2 n3 n4 n5 : Int32) (r : Option pvV) (M X : pvM) : Prop := ∃ x : Int32, r = some (pvI x) ∧ ((x.toInt < 0 ∧ X.2 = M.2) ∨ (0 ≤ x.toInt ∧ zSHk (Int32.toNatClampNeg n1) (Int32.toNatClampNeg n2) (Int32.toNatClampNeg n3) (Int32.toNatClampNeg n4) (Int32.toNatClampNeg n5) M X))
def zSA (A B n : Nat) (M X : pvM) : Prop := ∀ i : Nat, i < n → X.2 167 i = M.2 166 (60 * A + B + i)
def zSB (M X : pvM) : Prop := ∀ q i : Nat, q ≠ 167 → X.2 q i = M.2 q i
theorem zSA_0 (A B : Nat) (M X : pvM) : zSA A B (Int32.toNatClampNeg 0) M X := fun i h => absurd h (Nat.not_lt_zero i)
theorem zSB_0 {M X : pvM} (h : X.2 = M.2) : zSB M X := fun q i _ => by rw [h]
theorem zSA_w {A B n k : Nat} {v : Int64} {M Y X : pvM} (h : zSA A B n M Y) (b : zSB M Y) (hk : k = 60 * A + B + n) (hv : v = Y.2 166 k) (e : X = pvw Y 167 n v) : zSA A B (n + 1) M X := by
  subst hk
  intro i hi
  by_cases c : i = n
  · subst c
    exact (zw_s e).trans (hv.trans (b 166 _ (by decide)))
  · exact (zw_n e 167 i (Or.inr c)).trans (h i (by omega))
theorem zSB_w {n : Nat} {v : Int64} {M Y X : pvM} (b : zSB M Y) (e : X = pvw Y 167 n v) : zSB M X := fun q i hq => (zw_n e q i (Or.inl hq)).trans (b q i hq)
theorem zSA_n {A B n n' : Nat} {M X : pvM} (e : n' = n) (h : zSA A B n M X) : zSA A B n' M X := e ▸ h
theorem zSA_l {A B n q k : Nat} {v : Int64} {M Y X : pvM} (h : zSA A B n M Y) (e : X = pvw Y q k v) (hq : q ≠ 167) : zSA A B n M X := fun i hi => (zw_n e 167 i (Or.inl (Ne.symm hq))).trans (h i hi)
theorem zSHk_0 {A B C D : Nat} {M X : pvM} (b : zSB M X) : zSHk A B C D (Int32.toNatClampNeg 0) M X := fun q i hq => by
  rw [if_neg (by have u : Int32.toNatClampNeg 0 = 0 := rfl; omega)]
  exact b q i hq
theorem zSHk_w {A B C D n N k : Nat} {v : Int64} {M Y X : pvM} (h : zSHk A B C D n M Y) (a : zSA A B N M Y) (hn : n < N) (hk : k = 60 * C + D + n) (hv : v = Y.2 167 n) (e : X = pvw Y 166 k v) : zSHk A B C D (n + 1) M X := by
  subst hk
  intro q i hq
  by_cases c : q = 166 ∧ i = 60 * C + D + n
  · rw [c.1, c.2, zw_s e, if_pos (by omega), hv, a n hn, show 60 * C + D + n - (60 * C + D) = n by omega]
  · rw [zw_n e q i (by omega), h q i hq]
    by_cases d : q = 166 ∧ 60 * C + D ≤ i ∧ i < 60 * C + D + n
    · rw [if_pos d, if_pos (by omega)]
    · rw [if_neg d, if_neg (by omega)]
theorem zSHk_n {A B C D n n' : Nat} {M X : pvM} (e : n' = n) (h : zSHk A B C D n M X) : zSHk A B C D n' M X := e ▸ h
theorem zk60b {n1 b k : Int32} (h1 : 0 ≤ n1.toInt ∧ n1.toInt ≤ 5) (h3 : 0 ≤ b.toInt ∧ b.toInt ≤ 60) (h2 : 0 ≤ k.toInt ∧ k.toInt ≤ 60) : Int32.toNatClampNeg (((60 * n1) + b) + k) = 60 * Int32.toNatClampNeg n1 + Int32.toNatClampNeg b + Int32.toNatClampNeg k := by
  have u6 : (60 : Int32).toInt = 60 := by decide
  have a1 : (60 * n1).toInt = 60 * n1.toInt := by rw [zmul 60 n1 (by rw [u6]; omega) (by rw [u6]; omega), u6]
  have a2 : ((60 * n1) + b).toInt = 60 * n1.toInt + b.toInt := by rw [zadd (60 * n1) b (by omega) (by omega), a1]
  show (((60 * n1) + b) + k).toInt.toNat = 60 * n1.toInt.toNat + b.toInt.toNat + k.toInt.toNat
  rw [zadd ((60 * n1) + b) k (by omega) (by omega), a2]
  omega
theorem zSH9_c {n1 n2 n3 n4 n5 : Int32} {p q : Nat} {M X : pvM} (h5 : 0 ≤ n5.toInt) (h1 : 0 ≤ n1.toInt ∧ n1.toInt ≤ 5) (h3 : 0 ≤ n3.toInt ∧ n3.toInt ≤ 5) (h2 : 0 ≤ n2.toInt) (h4 : 0 ≤ n4.toInt) (l1 : n2.toInt + n5.toInt ≤ (M.1 (88 + Int32.toNatClampNeg n1) 1).toInt) (l2 : n4.toInt + n5.toInt ≤ (M.1 (88 + Int32.toNatClampNeg n3) 1).toInt) (hp : p = 94 + Int32.toNatClampNeg n1) (hq : q = 94 + Int32.toNatClampNeg n3) (e : X = pvrL M q (va_cpy (M.2 p) (M.2 q) (Int32.toNatClampNeg n2) (Int32.toNatClampNeg n4) (Int32.toNatClampNeg n5))) : zSH9 n1 n2 n3 n4 n5 (some (pvI n5)) M X := by
  subst hp
  subst hq
  refine ⟨n5, rfl, Or.inr ⟨h5, h1, h3, ⟨h2, h4, h5⟩, l1, l2, fun a i => ?_⟩⟩
  rw [e]
  show (if a = 94 + Int32.toNatClampNeg n3 then va_cpy (M.2 (94 + Int32.toNatClampNeg n1)) (M.2 (94 + Int32.toNatClampNeg n3)) (Int32.toNatClampNeg n2) (Int32.toNatClampNeg n4) (Int32.toNatClampNeg n5) else M.2 a) i = _
  by_cases c : a = 94 + Int32.toNatClampNeg n3
  · rw [if_pos c]
    unfold va_cpy
    by_cases d : Int32.toNatClampNeg n4 ≤ i ∧ i < Int32.toNatClampNeg n4 + Int32.toNatClampNeg n5
    · rw [if_pos d, if_pos ⟨c, d⟩]
    · rw [if_neg d, if_neg (fun z => d z.2), c]
  · rw [if_neg c, if_neg (fun z => c z.1)]
theorem zL2_s {n1 n2 n3 n4 n5 r r2 : Int32} {M Y X : pvM} (h : zL2 M) (hl : ∀ t : Nat, t < 6 → 0 ≤ (M.1 (88 + t) 1).toInt ∧ (M.1 (88 + t) 1).toInt ≤ 60) (er : r = r2) (c9 : zLcc M Y) (g9 : zSH9 n1 n2 n3 n4 n5 (some (pvI r)) M Y) (c : zLcc Y X) (g10 : zSH10 n1 n2 n3 n4 n5 (some (pvI r2)) Y X) : zL2 X := by
  subst er
  obtain ⟨x9, e9, g9⟩ := g9
  obtain ⟨x10, e10, g10⟩ := g10
  have q9 : r = x9 := Sum.inl.inj (Option.some.inj e9)
  have q10 : r = x10 := Sum.inl.inj (Option.some.inj e10)
  subst q9
  subst q10
  have cc : zLcc M X := fun t ht => ⟨((c t ht).1).trans (c9 t ht).1, ((c t ht).2).trans (c9 t ht).2⟩
  rcases g9 with ⟨a, b⟩ | ⟨a, h1, h3, h2, l1, l2, b⟩
  · rcases g10 with ⟨a2, b2⟩ | ⟨a2, b2⟩
    · exact zL2_k h cc b b2
    · omega
  · rcases g10 with ⟨a2, b2⟩ | ⟨a2, b2⟩
    · omega
    · have w1 : (Int32.toNatClampNeg n1 : Int) = n1.toInt := by show ((n1.toInt.toNat : Nat) : Int) = n1.toInt; omega
      have w2 : (Int32.toNatClampNeg n2 : Int) = n2.toInt := by show ((n2.toInt.toNat : Nat) : Int) = n2.toInt; omega
      have w3 : (Int32.toNatClampNeg n3 : Int) = n3.toInt := by show ((n3.toInt.toNat : Nat) : Int) = n3.toInt; omega
      have w4 : (Int32.toNatClampNeg n4 : Int) = n4.toInt := by show ((n4.toInt.toNat : Nat) : Int) = n4.toInt; omega
      have w5 : (Int32.toNatClampNeg n5 : Int) = n5.toInt := by show ((n5.toInt.toNat : Nat) : Int) = n5.toInt; omega
      have k1 := hl (Int32.toNatClampNeg n1) (by omega)
      have k3 := hl (Int32.toNatClampNeg n3) (by omega)
      rw [← w1] at h1
      rw [← w3] at h3
      rw [← w2, ← w5] at l1
      rw [← w4, ← w5] at l2
      generalize Int32.toNatClampNeg n1 = A at *
      generalize Int32.toNatClampNeg n2 = B at *
      generalize Int32.toNatClampNeg n3 = C at *
      generalize Int32.toNatClampNeg n4 = D at *
      generalize Int32.toNatClampNeg n5 = N at *
      intro s hs i hi hlt
      rw [(cc s hs).2] at hlt
      rw [b2 (94 + s) i (by omega), if_neg (by omega), b2 166 (60 * s + i) (by decide), b (94 + s) i]
      by_cases q : s = C ∧ D ≤ i ∧ i < D + N
      · rw [if_pos (by omega), if_pos (by omega), b 166 _, if_neg (by omega)]
        obtain ⟨rfl, qa, qb⟩ := q
        rw [show 60 * A + B + (60 * s + i - (60 * s + D)) = 60 * A + (B + (i - D)) by omega]
        exact h A (by omega) (B + (i - D)) (by omega) (by omega)
      · rw [if_neg (by omega), if_neg (by omega), b 166 _, if_neg (by omega)]
        exact h s hs i hi hlt
theorem zLb_m {p n n' : Nat} {M X : pvM} (hn : n' ≤ n) (h : zLb p n M X) : zLb p n' M X := ⟨fun i hi => h.1 i (by omega), h.2⟩
theorem zSA_m {A B n n' : Nat} {M X : pvM} (hn : n' ≤ n) (h : zSA A B n M X) : zSA A B n' M X := fun i hi => h i (by omega)
theorem zI9_p {p p' k : Nat} {W : Int64} {M X : pvM} (hp : p' = p) (h : zI9 p k W M X) : zI9 p' k W M X := hp ▸ h
theorem zI9_k {p k k' : Nat} {W : Int64} {M X : pvM} (hp : k' = k) (h : zI9 p k W M X) : zI9 p k' W M X := hp ▸ h
def zno2 : List Nat := [0, 1, 2, 3, 4, 5, 6, 7, 8, 9, 10, 11, 12, 13, 14, 15, 16, 17, 18, 19, 20, 21, 22, 23, 24, 25, 26, 27, 28, 29, 30, 31, 32, 33, 34, 35, 36, 37, 38, 39, 40, 41, 42, 44, 45, 46, 47, 48, 49, 50, 51, 52, 53, 54, 55, 56, 57, 58, 59, 60, 61, 62, 63, 64, 65, 66, 67, 68, 69, 70, 71, 72, 74, 75, 76, 77, 78, 79, 80, 81, 82, 83, 84, 85, 86, 87, 88, 90, 91, 92, 93, 94, 95, 96, 97, 98, 99, 100, 101, 102, 103, 104, 105, 106, 107, 108, 109, 110, 111, 112, 113, 114, 115, 116, 117, 118, 119, 120, 121, 122, 123, 124, 125, 126, 127, 128, 129, 130, 131, 132, 133, 134, 135, 136, 137, 138, 139, 140, 141, 142, 143, 144, 145, 146, 147, 148, 149, 150, 151, 152, 153, 154, 155, 156, 157, 158, 159, 160, 161, 163, 164, 165, 166, 167, 168, 169, 170, 171, 172, 173, 174, 175, 176, 177, 178, 179, 180, 182, 183, 184, 185, 186, 187, 188, 189, 190, 191, 192, 193, 194, 195, 196, 197, 199, 200, 201, 202, 203, 205, 206, 207, 208, 209, 210, 211, 212]
set_option maxRecDepth 100000 in
theorem zno2_t : pvno2 zno2 = true := by decide +kernel
/-! items of a row of booleans are 0 or 1 -/
def zNs (M X : pvM) : Prop := True
theorem zNs_r (M : pvM) : zNs M M := trivial
theorem zNs_fr {L : List (Nat × Nat × Nat)} {M X : pvM} (hf : pvFr (pvfp L) M X) (hx : (L == L) = true) : zNs M X := trivial
def zLB (M : pvM) : Prop := ∀ t : Nat, t < 6 → M.1 (88 + t) 0 = 4 → ∀ i : Nat, i < 60 → (i : Int) < (M.1 (88 + t) 1).toInt → M.2 (94 + t) i = 0 ∨ M.2 (94 + t) i = 1
theorem zLB_k {M Y X : pvM} (h : zLB M) (c : zLcc M X) (a : Y.2 = M.2) (b : X.2 = Y.2) : zLB X := fun t ht h4 i hi hl => by
  rw [(c t ht).2] at hl
  rw [(c t ht).1] at h4
  rw [b, a]
  exact h t ht h4 i hi hl
theorem zLB_c {Y X : pvM} (h : zLB Y) (c : zLcc Y X) (e : ∀ t i : Nat, t < 6 → X.2 (94 + t) i = Y.2 (94 + t) i) : zLB X := fun t ht h4 i hi hl => by
  rw [(c t ht).2] at hl
  rw [(c t ht).1] at h4
  rw [e t i ht]
  exact h t ht h4 i hi hl
theorem zLB_t {n1 : Int32} {r r2 : Option pvV} {M Y X : pvM} (h : zLB M) (hr : ∀ t : Nat, t < 6 → 0 ≤ (Y.1 (88 + t) 1).toInt ∧ (Y.1 (88 + t) 1).toInt ≤ 60) (g9 : zTP9 n1 r M Y) (c : zLcc Y X) (g10 : zTP10 n1 r2 Y X) : zLB X := by
  have hY : zLB Y := by
    obtain ⟨x9, e9, g9⟩ := g9
    rcases g9 with ⟨-, b, k⟩ | ⟨-, t, ht, -, -, b, k⟩
    · intro s hs h4 i hi hl
      rw [(k s hs).2] at hl
      rw [(k s hs).1] at h4
      rw [b]
      exact h s hs h4 i hi hl
    · intro s hs h4 i hi hl
      by_cases q : s = t
      · subst q
        refine Or.inl (b.1 i ?_)
        have z : (Int32.toNatClampNeg (Y.1 (88 + s) 1) : Int) = (Y.1 (88 + s) 1).toInt := ztn _ (hr s hs).1
        omega
      · rw [(k s hs q).2] at hl
        rw [(k s hs q).1] at h4
        rw [b.2 (94 + s) i (by omega)]
        exact h s hs h4 i hi hl
  obtain ⟨x10, e10, g10⟩ := g10
  rcases g10 with ⟨-, b⟩ | ⟨-, b⟩
  · exact zLB_c hY c (fun t i _ => by rw [b])
  · exact zLB_c hY c (fun t i ht => b.2 (94 + t) i (Or.inl (by omega)))
theorem zLB_i {n1 n2 : Int32} {r r2 : Option pvV} {W W2 : Int64} {M Y X : pvM} (h : zLB M) (hw : 0 ≤ n1.toInt ∧ n1.toInt ≤ 5 → M.1 (pvbs 2 + Int32.toNatClampNeg n1) 0 = 4 → W = 0 ∨ W = 1) (c9 : zLcc M Y) (g9 : zIT zF9 n1 n2 W r M Y) (c : zLcc Y X) (g10 : zIT zF10 n1 n2 W2 r2 Y X) : zLB X := by
  have hY : zLB Y := by
    obtain ⟨x9, e9, g9⟩ := g9
    intro s hs h4 i hi hl
    rw [(c9 s hs).2] at hl
    rw [(c9 s hs).1] at h4
    rcases g9 with ⟨-, b⟩ | ⟨-, h1, h2, b⟩
    · rw [b]; exact h s hs h4 i hi hl
    · rw [b]
      by_cases q : 94 + s = (zF9 n1 n2).1 ∧ i = (zF9 n1 n2).2
      · rw [if_pos q]
        have e : s = Int32.toNatClampNeg n1 := by
          have := q.1
          unfold zF9 at this
          omega
        refine hw h1 ?_
        have pb : pvbs 2 = 88 := rfl
        rw [pb, ← e]
        exact h4
      · rw [if_neg q]; exact h s hs h4 i hi hl
  obtain ⟨x10, e10, g10⟩ := g10
  rcases g10 with ⟨-, b⟩ | ⟨-, h1, h2, b⟩
  · exact zLB_c hY c (fun t i _ => by rw [b])
  · exact zLB_c hY c (fun t i ht => by
      rw [b, if_neg (fun z => by
        have := z.1
        unfold zF10 at this
        omega)])
def zSo (n1 n3 : Int32) (r : Option pvV) (M : pvM) : Prop := ∀ x : Int32, r = some (pvI x) → 0 ≤ x.toInt → M.1 (88 + Int32.toNatClampNeg n1) 0 = M.1 (88 + Int32.toNatClampNeg n3) 0
theorem zSo_n {n1 n3 x : Int32} {M : pvM} (h : ¬ 0 ≤ x.toInt) : zSo n1 n3 (some (pvI x)) M := fun y e z => by
  have e := zpI e
  subst e
  exact absurd z h
theorem zSo_y {n1 n3 : Int32} {r : Option pvV} {M : pvM} (h : M.1 (88 + Int32.toNatClampNeg n1) 0 = M.1 (88 + Int32.toNatClampNeg n3) 0) : zSo n1 n3 r M := fun _ _ _ => h
theorem zLB_s {n1 n2 n3 n4 n5 : Int32} {r r2 : Option pvV} {M Y X : pvM} (h : zLB M) (hl60 : ∀ t : Nat, t < 6 → 0 ≤ (M.1 (88 + t) 1).toInt ∧ (M.1 (88 + t) 1).toInt ≤ 60) (so : zSo n1 n3 r M) (c9 : zLcc M Y) (g9 : zSH9 n1 n2 n3 n4 n5 r M Y) (c : zLcc Y X) (g10 : zSH10 n1 n2 n3 n4 n5 r2 Y X) : zLB X := by
  have hY : zLB Y := by
    obtain ⟨x9, e9, g9⟩ := g9
    intro s hs h4 i hi hl
    rw [(c9 s hs).2] at hl
    rw [(c9 s hs).1] at h4
    rcases g9 with ⟨-, b⟩ | ⟨a, h1, h3, h2, l1, l2, b⟩
    · rw [b]; exact h s hs h4 i hi hl
    · rw [b]
      have t1 := ztn n1 h1.1
      have t3 := ztn n3 h3.1
      have t2 := ztn n2 h2.1
      have t4 := ztn n4 h2.2.1
      have t5 := ztn n5 h2.2.2
      split
      · next q =>
        have e : s = Int32.toNatClampNeg n3 := by omega
        have eso := so x9 e9 a
        rw [e, ← eso] at h4
        have lm := hl60 (Int32.toNatClampNeg n1) (by omega)
        refine h (Int32.toNatClampNeg n1) (by omega) h4 _ ?_ ?_
        · omega
        · omega
      · exact h s hs h4 i hi hl
  obtain ⟨x10, e10, g10⟩ := g10
  rcases g10 with ⟨-, b⟩ | ⟨-, b⟩
  · exact zLB_c hY c (fun t i _ => by rw [b])
  · exact zLB_c hY c (fun t i ht => by rw [b _ _ (by omega), if_neg (fun z => by omega)])
/-! judged -/
def yjr (none : Bool) (len i : Int) (e : Nat → Bool) : Nat → Nat → Int
  | 0, _ => -5
  | n + 1, w => if none = true ∨ i < 0 ∨ len - w ≤ i then 100 + w else if e w = true then yjr none len i e n (w + 1) else w
theorem yjr_c {none : Bool} {len i : Int} {e f : Nat → Bool} : ∀ {n w : Nat}, (∀ v : Nat, w ≤ v → v < w + n → ¬ (none = true ∨ i < 0 ∨ len - v ≤ i) → e v = f v) → yjr none len i e n w = yjr none len i f n w
  | 0, _, _ => rfl
  | n + 1, w, h => by
    show (if none = true ∨ i < 0 ∨ len - w ≤ i then 100 + (w : Int) else if e w = true then yjr none len i e n (w + 1) else w) = (if none = true ∨ i < 0 ∨ len - w ≤ i then 100 + (w : Int) else if f w = true then yjr none len i f n (w + 1) else w)
    by_cases c : none = true ∨ i < 0 ∨ len - w ≤ i
    · rw [if_pos c, if_pos c]
    · rw [if_neg c, if_neg c, h w (Nat.le_refl _) (by omega) c, yjr_c (fun v h1 h2 h3 => h v (by omega) (by omega) h3)]
theorem yjr_0 {i : Int} {e f : Nat → Bool} : ∀ {n : Nat}, yjr false 0 i e n 0 = yjr true 0 i f n 0
  | 0 => rfl
  | n + 1 => by
    show (if false = true ∨ i < 0 ∨ (0 : Int) - (0 : Nat) ≤ i then 100 + ((0 : Nat) : Int) else _) = (if true = true ∨ i < 0 ∨ (0 : Int) - (0 : Nat) ≤ i then 100 + ((0 : Nat) : Int) else _)
    rw [if_pos (by omega), if_pos (Or.inl rfl)]
/-- what a row says, what is SHUT: the class, the reference -/
def yje (M : pvM) (n1 : Int32) (i : Int32) (w : Nat) : Bool := decide (M.2 (pvbs 2 + Int32.toNatClampNeg n1 + 6) (Int32.toNatClampNeg i + w) = 0) == decide (M.1 (pvbs 10 + w) 5 = 0)
def yj0 (M : pvM) (t : Nat) (i : Int32) (w : Nat) : Bool := decide (M.2 166 (60 * t + Int32.toNatClampNeg i + w) = if M.1 131 w = 0 then 0 else 1)
def yjA (W : Nat) (s len : Int32) (n1 n2 : Int32) (none : Bool) (e : Nat → Bool) : Int := if n1.toInt < 0 ∨ 5 < n1.toInt then -1 else if ¬ s = -1 ∧ ¬ s = 4 then -12 else yjr none len.toInt n2.toInt e W 0
def yju9 (n1 n2 : Int32) (r : Option pvV) (M : pvM) : Prop := ∃ x : Int32, r = some (pvI x) ∧ x.toInt = yjA (Int32.toNatClampNeg (M.1 8 1)) (M.1 (pvbs 2 + Int32.toNatClampNeg n1) 0) (M.1 (pvbs 2 + Int32.toNatClampNeg n1) 1) n1 n2 false (yje M n1 n2)
def yju0 (n1 n2 : Int32) (r : Option pvV) (M : pvM) : Prop := ∃ x : Int32, r = some (pvI x) ∧ x.toInt = (if n1.toInt < 0 ∨ 5 < n1.toInt then -1 else if 0 ≤ (M.1 164 (Int32.toNatClampNeg n1)).toInt ∧ ¬ M.1 164 (Int32.toNatClampNeg n1) = 4 then -12 else yjr (decide ((M.1 164 (Int32.toNatClampNeg n1)).toInt < 0)) (M.1 165 (Int32.toNatClampNeg n1)).toInt n2.toInt (yj0 M (Int32.toNatClampNeg n1) n2) (Int32.toNatClampNeg (M.1 124 0)) 0)
theorem yju_e {n1 n2 v w : Int32} {M Y : pvM} (hok : pvOk M) (h : yju9 n1 n2 (some (pvI v)) M) (k : yju0 n1 n2 (some (pvI w)) Y) (hw : M.1 8 1 = Y.1 124 0) (h0 : ∀ t, t < 6 → Y.1 164 t = M.1 (88 + t) 0) (h1 : ∀ t, t < 6 → Y.1 165 t = M.1 (88 + t) 1) (hb : ∀ t, t < 6 → ((-1) ≤ (M.1 (88 + t) 0).toInt ∧ (M.1 (88 + t) 0).toInt ≤ 4) ∧ (0 ≤ (M.1 (88 + t) 1).toInt ∧ (M.1 (88 + t) 1).toInt ≤ 60)) (hZ : zLZ M) (hL : zL2 M) (hB : zLB M) (e2 : Y.2 166 = M.2 166) (hV : ∀ u : Nat, u < Int32.toNatClampNeg (M.1 8 1) → M.1 (60 + u) 5 = Y.1 131 u) : v = w := by
  obtain ⟨x, ex, a⟩ := h
  obtain ⟨y, ey, b⟩ := k
  have ex := zpI ex
  have ey := zpI ey
  subst ex ey
  refine (zi_eq _ _).mpr ?_
  have p2 : pvbs 2 = 88 := rfl
  have p10 : pvbs 10 = 60 := rfl
  rw [p2] at a
  rw [a, b]
  unfold yjA
  by_cases c : n1.toInt < 0 ∨ 5 < n1.toInt
  · rw [if_pos c, if_pos c]
  rw [if_neg c, if_neg c]
  have tn := ztn n1 (by omega)
  have t6 : Int32.toNatClampNeg n1 < 6 := by omega
  rw [h0 _ t6, h1 _ t6, ← hw]
  obtain ⟨b1, b2⟩ := hb _ t6
  have hz := hZ _ t6
  have hl := hL _ t6
  have hbb := hB _ t6
  have um : (-1 : Int32).toInt = -1 := by decide
  have u4 : (4 : Int32).toInt = 4 := by decide
  have u0 : (0 : Int32).toInt = 0 := by decide
  have em : M.1 (88 + Int32.toNatClampNeg n1) 0 = -1 ↔ (M.1 (88 + Int32.toNatClampNeg n1) 0).toInt < 0 := by
    rw [zi_eq, um]; omega
  by_cases d : ¬ M.1 (88 + Int32.toNatClampNeg n1) 0 = -1 ∧ ¬ M.1 (88 + Int32.toNatClampNeg n1) 0 = 4
  · rw [if_pos d, if_pos ⟨by have := mt em.mpr d.1; omega, d.2⟩]
  rw [if_neg d, if_neg (fun z => d ⟨fun q => by have := em.mp q; omega, z.2⟩)]
  by_cases q : M.1 (88 + Int32.toNatClampNeg n1) 0 = -1
  · rw [hz q, decide_eq_true (em.mp q), u0]
    exact yjr_0
  · have s4 : M.1 (88 + Int32.toNatClampNeg n1) 0 = 4 := Classical.byContradiction (fun z => d ⟨q, z⟩)
    rw [decide_eq_false (fun z => q (em.mpr z))]
    refine yjr_c (fun u _ h2 h3 => ?_)
    have i0 : 0 ≤ n2.toInt := by
      have : ¬ n2.toInt < 0 := fun z => h3 (Or.inr (Or.inl z))
      omega
    have ti := ztn n2 i0
    have lt : ¬ (M.1 (88 + Int32.toNatClampNeg n1) 1).toInt - u ≤ n2.toInt := fun z => h3 (Or.inr (Or.inr z))
    have ee := hl (Int32.toNatClampNeg n2 + u) (by omega) (by omega)
    have eb := hbb s4 (Int32.toNatClampNeg n2 + u) (by omega) (by omega)
    unfold yje yj0
    rw [p2, p10, show 88 + Int32.toNatClampNeg n1 + 6 = 94 + Int32.toNatClampNeg n1 by omega, e2, ← hV u (by omega), show 60 * Int32.toNatClampNeg n1 + Int32.toNatClampNeg n2 + u = 60 * Int32.toNatClampNeg n1 + (Int32.toNatClampNeg n2 + u) by omega, ← ee]
    have n01 : ¬ ((0 : Int64) = 1) := by decide
    have n10 : ¬ ((1 : Int64) = 0) := by decide
    by_cases g : M.1 (60 + u) 5 = 0
    · rw [if_pos g, decide_eq_true g]
      rcases eb with eb | eb <;> rw [eb] <;> decide
    · rw [if_neg g, decide_eq_false g]
      rcases eb with eb | eb <;> rw [eb] <;> decide
/-! judging, step by step -/
def yjI (none : Bool) (len i : Int) (e : Nat → Bool) (W : Nat) (w : Int32) : Prop := w.toInt ≤ (W : Int) ∧ yjr none len i e W 0 = yjr none len i e (W - Int32.toNatClampNeg w) (Int32.toNatClampNeg w)
theorem yjI_0 {none : Bool} {len i : Int} {e : Nat → Bool} {W : Nat} : yjI none len i e W 0 := by
  have u0 : (0 : Int32).toInt = 0 := by decide
  refine ⟨by omega, ?_⟩
  rw [show Int32.toNatClampNeg (0 : Int32) = 0 from by decide, Nat.sub_zero]
theorem yjI_x {none : Bool} {len i : Int} {e : Nat → Bool} {W : Nat} {w : Int32} (h : yjI none len i e W w) (h0 : 0 ≤ w.toInt) (hl : w.toInt < (W : Int)) : yjr none len i e W 0 = if none = true ∨ i < 0 ∨ len - w.toInt ≤ i then 100 + w.toInt else if e (Int32.toNatClampNeg w) = true then yjr none len i e (W - Int32.toNatClampNeg w - 1) (Int32.toNatClampNeg w + 1) else w.toInt := by
  have t := ztn w h0
  rw [h.2, show W - Int32.toNatClampNeg w = (W - Int32.toNatClampNeg w - 1) + 1 by omega]
  show (if none = true ∨ i < 0 ∨ len - (Int32.toNatClampNeg w : Int) ≤ i then 100 + (Int32.toNatClampNeg w : Int) else if e (Int32.toNatClampNeg w) = true then yjr none len i e (W - Int32.toNatClampNeg w - 1) (Int32.toNatClampNeg w + 1) else (Int32.toNatClampNeg w : Int)) = _
  rw [t]
  rfl
theorem yjI_s {none : Bool} {len i : Int} {e : Nat → Bool} {W : Nat} {w w' : Int32} (h : yjI none len i e W w) (h0 : 0 ≤ w.toInt) (hl : w.toInt < (W : Int)) (c : ¬ (none = true ∨ i < 0 ∨ len - w.toInt ≤ i)) (he : e (Int32.toNatClampNeg w) = true) (h2 : w'.toInt = w.toInt + 1) : yjI none len i e W w' := by
  have t := ztn w h0
  have t2 : Int32.toNatClampNeg w' = Int32.toNatClampNeg w + 1 := by
    have := ztn w' (by omega)
    omega
  refine ⟨by omega, ?_⟩
  rw [yjI_x h h0 hl, if_neg c, if_pos he, t2, show W - (Int32.toNatClampNeg w + 1) = W - Int32.toNatClampNeg w - 1 by omega]
theorem yjI_r {none : Bool} {len i : Int} {e : Nat → Bool} {W : Nat} {w : Int32} (h : yjI none len i e W w) (h0 : 0 ≤ w.toInt) (hl : w.toInt < (W : Int)) (c : none = true ∨ i < 0 ∨ len - w.toInt ≤ i) : 100 + w.toInt = yjr none len i e W 0 := by rw [yjI_x h h0 hl, if_pos c]
theorem yjI_n {none : Bool} {len i : Int} {e : Nat → Bool} {W : Nat} {w : Int32} (h : yjI none len i e W w) (h0 : 0 ≤ w.toInt) (hl : w.toInt < (W : Int)) (c : ¬ (none = true ∨ i < 0 ∨ len - w.toInt ≤ i)) (he : ¬ e (Int32.toNatClampNeg w) = true) : w.toInt = yjr none len i e W 0 := by rw [yjI_x h h0 hl, if_neg c, if_neg he]
theorem yjI_e {none : Bool} {len i : Int} {e : Nat → Bool} {W : Nat} {w : Int32} (h : yjI none len i e W w) (hl : (W : Int) ≤ w.toInt) (h0 : 0 ≤ w.toInt) : (-5 : Int) = yjr none len i e W 0 := by
  have t := ztn w h0
  rw [h.2, show W - Int32.toNatClampNeg w = 0 by omega]
  rfl
theorem yju9_n {n1 n2 x : Int32} {M : pvM} (h : n1.toInt < 0 ∨ 5 < n1.toInt) (e : x.toInt = -1) : yju9 n1 n2 (some (pvI x)) M := ⟨x, rfl, by unfold yjA; rw [if_pos h, e]⟩
theorem yju9_c {n1 n2 x : Int32} {M : pvM} (h : ¬ (n1.toInt < 0 ∨ 5 < n1.toInt)) (k : ¬ M.1 (pvbs 2 + Int32.toNatClampNeg n1) 0 = -1 ∧ ¬ M.1 (pvbs 2 + Int32.toNatClampNeg n1) 0 = 4) (e : x.toInt = -12) : yju9 n1 n2 (some (pvI x)) M := ⟨x, rfl, by unfold yjA; rw [if_neg h, if_pos k, e]⟩
theorem yju9_i {n1 n2 x : Int32} {M : pvM} (h : ¬ (n1.toInt < 0 ∨ 5 < n1.toInt)) (k : M.1 (pvbs 2 + Int32.toNatClampNeg n1) 0 = -1 ∨ M.1 (pvbs 2 + Int32.toNatClampNeg n1) 0 = 4) (e : x.toInt = yjr false (M.1 (pvbs 2 + Int32.toNatClampNeg n1) 1).toInt n2.toInt (yje M n1 n2) (Int32.toNatClampNeg (M.1 8 1)) 0) : yju9 n1 n2 (some (pvI x)) M := ⟨x, rfl, by unfold yjA; rw [if_neg h, if_neg (fun z => k.elim z.1 z.2), e]⟩
theorem yje_x {M : pvM} {n1 n2 w : Int32} (h2 : 0 ≤ n2.toInt ∧ n2.toInt ≤ 60) (hw : 0 ≤ w.toInt ∧ w.toInt ≤ 7) : Int32.toNatClampNeg (n2 + w) = Int32.toNatClampNeg n2 + Int32.toNatClampNeg w := by
  have a := ztn n2 h2.1
  have b := ztn w hw.1
  have c := ztn (n2 + w) (by rw [zadd _ _ (by omega) (by omega)]; omega)
  rw [zadd _ _ (by omega) (by omega)] at c
  omega
theorem yje_y {M : pvM} {n1 n2 w : Int32} (h2 : 0 ≤ n2.toInt ∧ n2.toInt ≤ 60) (hw : 0 ≤ w.toInt ∧ w.toInt ≤ 7) (c : (lg_cmp (M.2 (pvbs 2 + Int32.toNatClampNeg n1 + 6) (Int32.toNatClampNeg (n2 + w))) 0 = 0 ∧ (M.1 (pvbs 10 + Int32.toNatClampNeg w) 5).toInt = 0) ∨ (¬ lg_cmp (M.2 (pvbs 2 + Int32.toNatClampNeg n1 + 6) (Int32.toNatClampNeg (n2 + w))) 0 = 0 ∧ (M.1 (pvbs 10 + Int32.toNatClampNeg w) 5).toInt = 1)) : yje M n1 n2 (Int32.toNatClampNeg w) = true := by
  have u0 : (0 : Int32).toInt = 0 := by decide
  rw [yje_x (M := M) (n1 := n1) h2 hw] at c
  unfold yje
  rcases c with ⟨c, d⟩ | ⟨c, d⟩
  · rw [decide_eq_true ((lg_cmp_eq _ _).mp c), decide_eq_true ((zi_eq _ _).mpr (by omega))]; rfl
  · rw [decide_eq_false (fun z => c ((lg_cmp_eq _ _).mpr z)), decide_eq_false (fun z => by rw [z] at d; omega)]; rfl
theorem yje_n {M : pvM} {n1 n2 w : Int32} (h2 : 0 ≤ n2.toInt ∧ n2.toInt ≤ 60) (hw : 0 ≤ w.toInt ∧ w.toInt ≤ 7) (c : (lg_cmp (M.2 (pvbs 2 + Int32.toNatClampNeg n1 + 6) (Int32.toNatClampNeg (n2 + w))) 0 = 0 ∧ (M.1 (pvbs 10 + Int32.toNatClampNeg w) 5).toInt = 1) ∨ (¬ lg_cmp (M.2 (pvbs 2 + Int32.toNatClampNeg n1 + 6) (Int32.toNatClampNeg (n2 + w))) 0 = 0 ∧ (M.1 (pvbs 10 + Int32.toNatClampNeg w) 5).toInt = 0)) : ¬ yje M n1 n2 (Int32.toNatClampNeg w) = true := by
  have u0 : (0 : Int32).toInt = 0 := by decide
  rw [yje_x (M := M) (n1 := n1) h2 hw] at c
  unfold yje
  rcases c with ⟨c, d⟩ | ⟨c, d⟩
  · rw [decide_eq_true ((lg_cmp_eq _ _).mp c), decide_eq_false (fun z => by rw [z] at d; omega)]; decide
  · rw [decide_eq_false (fun z => c ((lg_cmp_eq _ _).mpr z)), decide_eq_true ((zi_eq _ _).mpr (by omega))]; decide
theorem yj0_y {M : pvM} {n1 n2 w q : Int32} (hq : Int32.toNatClampNeg q = 60 * Int32.toNatClampNeg n1 + Int32.toNatClampNeg n2 + Int32.toNatClampNeg w) (c : (M.1 131 (Int32.toNatClampNeg w) = 0 ∧ lg_cmp (M.2 166 (Int32.toNatClampNeg q)) 0 = 0) ∨ (¬ M.1 131 (Int32.toNatClampNeg w) = 0 ∧ lg_cmp (M.2 166 (Int32.toNatClampNeg q)) 1 = 0)) : yj0 M (Int32.toNatClampNeg n1) n2 (Int32.toNatClampNeg w) = true := by
  rw [hq] at c
  unfold yj0
  rcases c with ⟨c, d⟩ | ⟨c, d⟩
  · rw [if_pos c]; exact decide_eq_true ((lg_cmp_eq _ _).mp d)
  · rw [if_neg c]; exact decide_eq_true ((lg_cmp_eq _ _).mp d)
theorem yj0_n {M : pvM} {n1 n2 w q : Int32} (hq : Int32.toNatClampNeg q = 60 * Int32.toNatClampNeg n1 + Int32.toNatClampNeg n2 + Int32.toNatClampNeg w) (c : (M.1 131 (Int32.toNatClampNeg w) = 0 ∧ ¬ lg_cmp (M.2 166 (Int32.toNatClampNeg q)) 0 = 0) ∨ (¬ M.1 131 (Int32.toNatClampNeg w) = 0 ∧ ¬ lg_cmp (M.2 166 (Int32.toNatClampNeg q)) 1 = 0)) : ¬ yj0 M (Int32.toNatClampNeg n1) n2 (Int32.toNatClampNeg w) = true := by
  rw [hq] at c
  unfold yj0
  rcases c with ⟨c, d⟩ | ⟨c, d⟩
  · rw [if_pos c, decide_eq_true_eq]; exact fun z => d ((lg_cmp_eq _ _).mpr z)
  · rw [if_neg c, decide_eq_true_eq]; exact fun z => d ((lg_cmp_eq _ _).mpr z)
theorem yju0_n {n1 n2 x : Int32} {M : pvM} (h : n1.toInt < 0 ∨ 5 < n1.toInt) (e : x.toInt = -1) : yju0 n1 n2 (some (pvI x)) M := ⟨x, rfl, by rw [if_pos h, e]⟩
theorem yju0_c {n1 n2 x : Int32} {M : pvM} (h : ¬ (n1.toInt < 0 ∨ 5 < n1.toInt)) (k : 0 ≤ (M.1 164 (Int32.toNatClampNeg n1)).toInt) (k4 : ¬ M.1 164 (Int32.toNatClampNeg n1) = 4) (e : x.toInt = -12) : yju0 n1 n2 (some (pvI x)) M := ⟨x, rfl, by rw [if_neg h, if_pos ⟨k, k4⟩, e]⟩
theorem yju0_i {n1 n2 x : Int32} {M : pvM} (h : ¬ (n1.toInt < 0 ∨ 5 < n1.toInt)) (k : (M.1 164 (Int32.toNatClampNeg n1)).toInt < 0 ∨ M.1 164 (Int32.toNatClampNeg n1) = 4) (e : x.toInt = yjr (decide ((M.1 164 (Int32.toNatClampNeg n1)).toInt < 0)) (M.1 165 (Int32.toNatClampNeg n1)).toInt n2.toInt (yj0 M (Int32.toNatClampNeg n1) n2) (Int32.toNatClampNeg (M.1 124 0)) 0) : yju0 n1 n2 (some (pvI x)) M := ⟨x, rfl, by rw [if_neg h, if_neg (fun z => k.elim (fun q => by omega) z.2), e]⟩
theorem yjd {a : Int} (h : ¬ a < 0) {p : Prop} (k : ¬ p) : ¬ (decide (a < 0) = true ∨ p) := fun z => z.elim (fun q => h (of_decide_eq_true q)) k
theorem yjc {len i w : Int} (h : ¬ i < 0) (k : i < len - w) : ¬ (i < 0 ∨ len - w ≤ i) := fun z => by omega
theorem yjf {p : Prop} (k : ¬ p) : ¬ (false = true ∨ p) := fun z => z.elim (fun q => absurd q (by decide)) k
theorem ycl_ {x : Int32} (h : 0 ≤ x.toInt) : (Int32.toNatClampNeg x : Int) = x.toInt := ztn x h
theorem zVe_5 {M Y : pvM} (hok : pvOk M) (h : zVe (M.1 8 1) (zw9 8 60 M) (zw0 1 5 6 131 M)) (k : zKy0 1 5 6 131 M Y) : ∀ u : Nat, u < Int32.toNatClampNeg (M.1 8 1) → M.1 (60 + u) 5 = Y.1 131 u := fun u hu => by
  have r := pvok_r hok 8 1 (lo := 0) (hi := 7) rfl
  have t := ztn _ r.1
  exact (h (u + 3) (by omega) (by omega)).trans (k (u + 3) (by omega)).symm
