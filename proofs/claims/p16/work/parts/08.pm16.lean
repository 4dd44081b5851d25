/-! more rules, more numbers -/
section PW
variable {j d : Nat} {Q : Option pvV → pvM → Prop} {L : List (Nat × pvO)}
theorem pw_ifn (hT : pvdom j = L) {pc a b nx : Nat} {lo : List (Option pvV)} {st : List pvV} {M : pvM} {x : Int32} {c : Prop} (ho : pvlook L pc = (60, a, b, 0, 0, 0, nx)) (hc : pvrel b x 0 = ¬ c) (kt : ¬ c → PW j d (a, lo, st, M) Q) (kf : c → PW j d (nx, lo, st, M) Q) : PW j d (pc, lo, pvI x :: st, M) Q :=
  pw_if hT ho hc kt (fun h => kf (Classical.not_not.mp h))
theorem pw_icn (hT : pvdom j = L) {pc a b nx : Nat} {lo : List (Option pvV)} {st : List pvV} {M : pvM} {x y : Int32} {c : Prop} (ho : pvlook L pc = (61, a, b, 0, 0, 0, nx)) (hc : pvrel b x y = ¬ c) (kt : ¬ c → PW j d (a, lo, st, M) Q) (kf : c → PW j d (nx, lo, st, M) Q) : PW j d (pc, lo, pvI y :: pvI x :: st, M) Q :=
  pw_ic hT ho hc kt (fun h => kf (Classical.not_not.mp h))
theorem pw_eqI {pc : Nat} {lo : List (Option pvV)} {st : List pvV} {M : pvM} {x y : Int32} (h : x = y) (k : PW j d (pc, lo, pvI y :: st, M) Q) : PW j d (pc, lo, pvI x :: st, M) Q := by
  subst h
  exact k
variable {pc a b c dd nx : Nat} {lo : List (Option pvV)} {st rest : List pvV} {M : pvM} {as : List pvV} {lo1 : List (Option pvV)} {d1 : Nat}
theorem pw_callT (hT : pvdom j = L) (ho : pvlook L pc = (80, a, b, c, dd, 0, nx)) (hst : st.take c = as.reverse) (hrest : st.drop c = rest) (hlen : Nat.ble rest.length 4 = true) (hcl : Nat.ble c st.length = true) (hr : dd % 2 = 1 → pvrcv b as) (hd : dd / 2 ≤ d) (hd1 : d - dd / 2 = d1) (hsl : Nat.ble (pvsl as).length (pvml b) = true) (hlo : pvent (pvml b) as = lo1) {t : Int32}
    (h1 : PW b d1 (0, lo1, [], M) (fun r X => r = some (pvI t) ∧ X = M)) (k : PW j d (nx, lo, pvI t :: rest, M) Q) : PW j d (pc, lo, st, M) Q :=
  pw_call hT ho hst hrest hlen hcl hr hd hd1 hsl hlo h1 (fun r1 M1 h => by obtain ⟨rfl, rfl⟩ := h; exact k)
theorem pw_callV (hT : pvdom j = L) (ho : pvlook L pc = (80, a, b, c, dd, 0, nx)) (hst : st.take c = as.reverse) (hrest : st.drop c = rest) (hlen : Nat.ble rest.length 4 = true) (hcl : Nat.ble c st.length = true) (hr : dd % 2 = 1 → pvrcv b as) (hd : dd / 2 ≤ d) (hd1 : d - dd / 2 = d1) (hsl : Nat.ble (pvsl as).length (pvml b) = true) (hlo : pvent (pvml b) as = lo1) {fp : Nat → Nat → Bool}
    (h1 : PW b d1 (0, lo1, [], M) (fun r X => r = none ∧ pvOk X ∧ pvFr fp M X)) (k : ∀ X, pvOk X → pvFr fp M X → PW j d (nx, lo, rest, X) Q) : PW j d (pc, lo, st, M) Q :=
  pw_call hT ho hst hrest hlen hcl hr hd hd1 hsl hlo h1 (fun r1 M1 h => by obtain ⟨rfl, h1, h2⟩ := h; exact k _ h1 h2)
theorem pw_callVd (hT : pvdom j = L) (ho : pvlook L pc = (80, a, b, c, dd, 0, nx)) (hst : st.take c = as.reverse) (hrest : st.drop c = rest) (hlen : Nat.ble rest.length 4 = true) (hcl : Nat.ble c st.length = true) (hr : dd % 2 = 1 → pvrcv b as) (hd : dd / 2 ≤ d) (hd1 : d - dd / 2 = d1) (hsl : Nat.ble (pvsl as).length (pvml b) = true) (hlo : pvent (pvml b) as = lo1) {fp : Nat → Nat → Bool} {P2 : pvM → Prop}
    (h1 : PW b d1 (0, lo1, [], M) (fun r X => r = none ∧ pvOk X ∧ pvFr fp M X ∧ P2 X)) (k : ∀ X, pvOk X → pvFr fp M X → P2 X → PW j d (nx, lo, rest, X) Q) : PW j d (pc, lo, st, M) Q :=
  pw_call hT ho hst hrest hlen hcl hr hd hd1 hsl hlo h1 (fun r1 M1 h => by obtain ⟨rfl, h1, h2, h3⟩ := h; exact k _ h1 h2 h3)
theorem pw_callVp (hT : pvdom j = L) (ho : pvlook L pc = (80, a, b, c, dd, 0, nx)) (hst : st.take c = as.reverse) (hrest : st.drop c = rest) (hlen : Nat.ble rest.length 4 = true) (hcl : Nat.ble c st.length = true) (hr : dd % 2 = 1 → pvrcv b as) (hd : dd / 2 ≤ d) (hd1 : d - dd / 2 = d1) (hsl : Nat.ble (pvsl as).length (pvml b) = true) (hlo : pvent (pvml b) as = lo1)
    (h1 : PW b d1 (0, lo1, [], M) (fun r X => r = none ∧ X = M)) (k : PW j d (nx, lo, rest, M) Q) : PW j d (pc, lo, st, M) Q :=
  pw_call hT ho hst hrest hlen hcl hr hd hd1 hsl hlo h1 (fun r1 M1 h => by obtain ⟨rfl, rfl⟩ := h; exact k)
theorem pw_callG (hT : pvdom j = L) (ho : pvlook L pc = (80, a, b, c, dd, 0, nx)) (hst : st.take c = as.reverse) (hrest : st.drop c = rest) (hlen : Nat.ble rest.length 4 = true) (hcl : Nat.ble c st.length = true) (hr : dd % 2 = 1 → pvrcv b as) (hd : dd / 2 ≤ d) (hd1 : d - dd / 2 = d1) (hsl : Nat.ble (pvsl as).length (pvml b) = true) (hlo : pvent (pvml b) as = lo1) {fp : Nat → Nat → Bool} {P : Int32 → Prop}
    (h1 : PW b d1 (0, lo1, [], M) (fun r X => (∃ x : Int32, r = some (pvI x) ∧ P x) ∧ pvOk X ∧ pvFr fp M X)) (k : ∀ x X, P x → pvOk X → pvFr fp M X → PW j d (nx, lo, pvI x :: rest, X) Q) : PW j d (pc, lo, st, M) Q :=
  pw_call hT ho hst hrest hlen hcl hr hd hd1 hsl hlo h1 (fun r1 M1 h => by obtain ⟨⟨x, rfl, h0⟩, h1, h2⟩ := h; exact k _ _ h0 h1 h2)
theorem pw_callGd (hT : pvdom j = L) (ho : pvlook L pc = (80, a, b, c, dd, 0, nx)) (hst : st.take c = as.reverse) (hrest : st.drop c = rest) (hlen : Nat.ble rest.length 4 = true) (hcl : Nat.ble c st.length = true) (hr : dd % 2 = 1 → pvrcv b as) (hd : dd / 2 ≤ d) (hd1 : d - dd / 2 = d1) (hsl : Nat.ble (pvsl as).length (pvml b) = true) (hlo : pvent (pvml b) as = lo1) {fp : Nat → Nat → Bool} {P : Int32 → Prop} {P2 : Option pvV → pvM → Prop}
    (h1 : PW b d1 (0, lo1, [], M) (fun r X => (∃ x : Int32, r = some (pvI x) ∧ P x) ∧ pvOk X ∧ pvFr fp M X ∧ P2 r X)) (k : ∀ x X, P x → pvOk X → pvFr fp M X → P2 (some (pvI x)) X → PW j d (nx, lo, pvI x :: rest, X) Q) : PW j d (pc, lo, st, M) Q :=
  pw_call hT ho hst hrest hlen hcl hr hd hd1 hsl hlo h1 (fun r1 M1 h => by obtain ⟨⟨x, rfl, h0⟩, h1, h2, h3⟩ := h; exact k _ _ h0 h1 h2 h3)
theorem pw_callGp (hT : pvdom j = L) (ho : pvlook L pc = (80, a, b, c, dd, 0, nx)) (hst : st.take c = as.reverse) (hrest : st.drop c = rest) (hlen : Nat.ble rest.length 4 = true) (hcl : Nat.ble c st.length = true) (hr : dd % 2 = 1 → pvrcv b as) (hd : dd / 2 ≤ d) (hd1 : d - dd / 2 = d1) (hsl : Nat.ble (pvsl as).length (pvml b) = true) (hlo : pvent (pvml b) as = lo1) {P : Int32 → Prop}
    (h1 : PW b d1 (0, lo1, [], M) (fun r X => (∃ x : Int32, r = some (pvI x) ∧ P x) ∧ X = M)) (k : ∀ x, P x → PW j d (nx, lo, pvI x :: rest, M) Q) : PW j d (pc, lo, st, M) Q :=
  pw_call hT ho hst hrest hlen hcl hr hd hd1 hsl hlo h1 (fun r1 M1 h => by obtain ⟨⟨x, rfl, h0⟩, rfl⟩ := h; exact k _ h0)
theorem pw_callJ (hT : pvdom j = L) (ho : pvlook L pc = (80, a, b, c, dd, 0, nx)) (hst : st.take c = as.reverse) (hrest : st.drop c = rest) (hlen : Nat.ble rest.length 4 = true) (hcl : Nat.ble c st.length = true) (hr : dd % 2 = 1 → pvrcv b as) (hd : dd / 2 ≤ d) (hd1 : d - dd / 2 = d1) (hsl : Nat.ble (pvsl as).length (pvml b) = true) (hlo : pvent (pvml b) as = lo1) {fp : Nat → Nat → Bool}
    (h1 : PW b d1 (0, lo1, [], M) (fun r X => (∃ x : Int64, r = some (pvJ x)) ∧ pvOk X ∧ pvFr fp M X)) (k : ∀ x X, True → pvOk X → pvFr fp M X → PW j d (nx, lo, pvJ x :: rest, X) Q) : PW j d (pc, lo, st, M) Q :=
  pw_call hT ho hst hrest hlen hcl hr hd hd1 hsl hlo h1 (fun r1 M1 h => by obtain ⟨⟨x, rfl⟩, h1, h2⟩ := h; exact k _ _ trivial h1 h2)
theorem pw_callJp (hT : pvdom j = L) (ho : pvlook L pc = (80, a, b, c, dd, 0, nx)) (hst : st.take c = as.reverse) (hrest : st.drop c = rest) (hlen : Nat.ble rest.length 4 = true) (hcl : Nat.ble c st.length = true) (hr : dd % 2 = 1 → pvrcv b as) (hd : dd / 2 ≤ d) (hd1 : d - dd / 2 = d1) (hsl : Nat.ble (pvsl as).length (pvml b) = true) (hlo : pvent (pvml b) as = lo1)
    (h1 : PW b d1 (0, lo1, [], M) (fun r X => (∃ x : Int64, r = some (pvJ x)) ∧ X = M)) (k : ∀ x, True → PW j d (nx, lo, pvJ x :: rest, M) Q) : PW j d (pc, lo, st, M) Q :=
  pw_call hT ho hst hrest hlen hcl hr hd hd1 hsl hlo h1 (fun r1 M1 h => by obtain ⟨⟨x, rfl⟩, rfl⟩ := h; exact k _ trivial)
theorem pw_callRp (hT : pvdom j = L) (ho : pvlook L pc = (80, a, b, c, dd, 0, nx)) (hst : st.take c = as.reverse) (hrest : st.drop c = rest) (hlen : Nat.ble rest.length 4 = true) (hcl : Nat.ble c st.length = true) (hr : dd % 2 = 1 → pvrcv b as) (hd : dd / 2 ≤ d) (hd1 : d - dd / 2 = d1) (hsl : Nat.ble (pvsl as).length (pvml b) = true) (hlo : pvent (pvml b) as = lo1)
    (h1 : PW b d1 (0, lo1, [], M) (fun r X => (∃ q : Nat, r = some (pvR q) ∧ 1010 ≤ q ∧ q < 1017) ∧ X = M)) (k : ∀ q, 1010 ≤ q ∧ q < 1017 → PW j d (nx, lo, pvR q :: rest, M) Q) : PW j d (pc, lo, st, M) Q :=
  pw_call hT ho hst hrest hlen hcl hr hd hd1 hsl hlo h1 (fun r1 M1 h => by obtain ⟨⟨x, rfl, h0⟩, rfl⟩ := h; exact k _ h0)
end PW
theorem zhid {p : Prop} (h : p) : zhide p := h
theorem pvms_up {x y : Int32} {a b c k : Int} {n : Nat} (h : (c - x.toInt).toNat < n + 1) (hx : a ≤ x.toInt ∧ x.toInt ≤ b) (e : y.toInt = x.toInt + k) (hk : 0 < k) (hc : c = b + 1) : (c - y.toInt).toNat < n := by omega
theorem pvms_dn {x y : Int32} {a b c k : Int} {n : Nat} (h : (x.toInt + c).toNat < n + 1) (hx : a ≤ x.toInt ∧ x.toInt ≤ b) (e : y.toInt = x.toInt + k) (hk : k < 0) (hc : c = 1 - a) : (y.toInt + c).toNat < n := by omega
theorem pvi2c {x : Int32} (h : 0 ≤ x.toInt ∧ x.toInt ≤ 65535) : UInt32.toInt32 (Int32.toUInt32 x % 65536) = x := by
  obtain ⟨j, hj, rfl⟩ := zpos h.1
  rw [nI_toInt hj] at h
  rw [pk_char, pk_tn (by omega), Nat.mod_eq_of_lt (by omega)]
theorem pv01 {x : Int32} (h : 0 ≤ x.toInt ∧ x.toInt ≤ 1) : x = 0 ∨ x = 1 := by
  rcases (show x.toInt = 0 ∨ x.toInt = 1 by omega) with e | e
  · exact Or.inl ((zi_eq _ _).mpr (by rw [e]; decide))
  · exact Or.inr ((zi_eq _ _).mpr (by rw [e]; decide))
theorem pvneg (x : Int32) (h : -2147483648 < x.toInt) : (-x).toInt = -x.toInt := by
  have h2 := zbnd x
  rw [Int32.toInt_neg, Int.bmod_eq_of_le] <;> omega
theorem pvabs (x : Int32) (h : -2147483648 < x.toInt) : (if 0 ≤ x then x else 0 - x).toInt = (x.toInt.natAbs : Int) := by
  have h2 := zbnd x
  have e0 : (0 : Int32).toInt = 0 := by decide
  split
  · next g =>
    have := (zi_le _ _).mp g
    omega
  · next g =>
    have := (not_congr (zi_le _ _)).mp g
    rw [zsub] <;> omega
theorem pvmax (x y : Int32) : (if x < y then y else x).toInt = max x.toInt y.toInt := by
  split
  · next g => have := (zi_lt _ _).mp g; omega
  · next g => have := (not_congr (zi_lt _ _)).mp g; omega
theorem pvmin (x y : Int32) : (if y < x then y else x).toInt = min x.toInt y.toInt := by
  split
  · next g => have := (zi_lt _ _).mp g; omega
  · next g => have := (not_congr (zi_lt _ _)).mp g; omega
theorem pvand1 (x : Int32) : 0 ≤ (x &&& 1).toInt ∧ (x &&& 1).toInt ≤ 1 := by
  obtain ⟨j, hj, e⟩ := pk_andE x (m := 1) 1 (by decide)
  rw [e, nI_toInt (by omega)]
  omega
theorem pvrem (x y : Int32) (hx : 0 ≤ x.toInt) (hy : 0 < y.toInt) : 0 ≤ (x - x / y * y).toInt ∧ (x - x / y * y).toInt < y.toInt := by
  obtain ⟨a, ha, rfl⟩ := zpos hx
  obtain ⟨b, hb, rfl⟩ := zpos (show 0 ≤ y.toInt by omega)
  rw [nI_toInt hb] at hy ⊢
  rw [pk_rem ha (by omega) hb, nI_toInt (by have := Nat.mod_lt a (show b > 0 by omega); omega)]
  have := Nat.mod_lt a (show b > 0 by omega)
  omega
theorem pvnneg {x : Int32} {b : Int} (h : 0 ≤ x.toInt ∧ x.toInt ≤ b) : ¬ x < 0 := fun q => by
  have u := (zi_lt _ _).mp q
  have w : (0 : Int32).toInt = 0 := by decide
  omega
theorem pvcpy_r {f g : Nat → Int32} {a b n : Nat} {lo hi lo2 hi2 : Int} (hf : ∀ k, lo ≤ (f k).toInt ∧ (f k).toInt ≤ hi) (hg : ∀ k, lo2 ≤ (g k).toInt ∧ (g k).toInt ≤ hi2) (h1 : lo2 ≤ lo := by decide) (h2 : hi ≤ hi2 := by decide) : ∀ k, lo2 ≤ (va_cpy f g a b n k).toInt ∧ (va_cpy f g a b n k).toInt ≤ hi2 := by
  intro k
  unfold va_cpy
  split
  · have := hf (a + (k - b)); omega
  · exact hg k
theorem pvst_1040 (i : Nat) : (-1) ≤ ((pvstab 1040).getD i 0).toInt ∧ ((pvstab 1040).getD i 0).toInt ≤ 3 := by
  have h : ∀ k, k < 7 → (-1) ≤ ((pvstab 1040).getD k 0).toInt ∧ ((pvstab 1040).getD k 0).toInt ≤ 3 := by decide +kernel
  by_cases hi : i < 7
  · exact h i hi
  · rw [List.getD_eq_getElem?_getD, List.getElem?_eq_none (by simp only [Nat.not_lt] at hi; exact hi)]; decide
theorem pvst_1041 (i : Nat) : 0 ≤ ((pvstab 1041).getD i 0).toInt ∧ ((pvstab 1041).getD i 0).toInt ≤ 71 := by
  have h : ∀ k, k < 21 → 0 ≤ ((pvstab 1041).getD k 0).toInt ∧ ((pvstab 1041).getD k 0).toInt ≤ 71 := by decide +kernel
  by_cases hi : i < 21
  · exact h i hi
  · rw [List.getD_eq_getElem?_getD, List.getElem?_eq_none (by simp only [Nat.not_lt] at hi; exact hi)]; decide
theorem pvsl_r (k : Nat) : 0 ≤ (nI (zsl.getD k 0)).toInt ∧ (nI (zsl.getD k 0)).toInt ≤ 6 := by
  have h : ∀ k, k < 7 → 0 ≤ (nI (zsl.getD k 0)).toInt ∧ (nI (zsl.getD k 0)).toInt ≤ 6 := by decide +kernel
  by_cases hi : k < 7
  · exact h k hi
  · rw [List.getD_eq_getElem?_getD, List.getElem?_eq_none (by simp only [Nat.not_lt] at hi; exact hi)]; decide
theorem pvsb_r (k i : Nat) : 0 ≤ ((zsb.getD k []).getD i 0).toInt ∧ ((zsb.getD k []).getD i 0).toInt ≤ 127 := by
  have h : ∀ k, k < 7 → ∀ i, i < 7 → 0 ≤ ((zsb.getD k []).getD i 0).toInt ∧ ((zsb.getD k []).getD i 0).toInt ≤ 127 := by decide +kernel
  have hl : ∀ k, k < 7 → (zsb.getD k []).length ≤ 7 := by decide +kernel
  by_cases hk : k < 7
  · by_cases hi : i < 7
    · exact h k hk i hi
    · rw [List.getD_eq_getElem?_getD (l := zsb.getD k []), List.getElem?_eq_none (by have := hl k hk; omega)]; decide
  · have e : zsb.getD k [] = [] := by
      rw [List.getD_eq_getElem?_getD, List.getElem?_eq_none (by simp only [Nat.not_lt] at hk; exact hk)]; rfl
    rw [e]
    simp
theorem pvix_0 (c : Int32) : ∀ (l : List Int32) (k : Nat), l.length + k ≤ 1000 → (-1) ≤ (pvixF c l k).toInt ∧ (pvixF c l k).toInt < (l.length + k : Int)
  | [], k, _ => by
    show _ ≤ (-1 : Int32).toInt ∧ (-1 : Int32).toInt < _
    have e : (-1 : Int32).toInt = -1 := by decide
    rw [e]
    simp
    omega
  | b :: l, k, h => by
    simp only [List.length_cons] at h
    unfold pvixF
    split
    · rw [nI_toInt (by omega)]
      simp only [List.length_cons]
      omega
    · have := pvix_0 c l (k + 1) (by omega)
      simp only [List.length_cons]
      omega
theorem pvix_r (c : Int32) (k : Nat) : (-1) ≤ (pvixF c (zsb.getD k []) 0).toInt ∧ (pvixF c (zsb.getD k []) 0).toInt ≤ 5 := by
  have hl : ∀ k, k < 7 → (zsb.getD k []).length ≤ 6 := by decide +kernel
  have h2 : (zsb.getD k []).length ≤ 6 := by
    by_cases hk : k < 7
    · exact hl k hk
    · have e : zsb.getD k [] = [] := by
        rw [List.getD_eq_getElem?_getD, List.getElem?_eq_none (by simp only [Nat.not_lt] at hk; exact hk)]; rfl
      rw [e]
      decide
  have := pvix_0 c (zsb.getD k []) 0 (by omega)
  omega
def pvfa (a : Nat × Nat × Nat) (q k : Nat) : Bool := (bif Nat.beq a.1 0 then Nat.beq q a.2.1 else Nat.beq (pvrl q) a.2.1) && (Nat.beq a.2.2 0 || Nat.beq (k + 1) a.2.2)
def pvfp (l : List (Nat × Nat × Nat)) (q k : Nat) : Bool := l.any fun a => pvfa a q k
theorem pvfp_sub {l1 l2 : List (Nat × Nat × Nat)} (h : (l1.all fun a => l2.contains a) = true) (q k : Nat) (h1 : pvfp l1 q k = true) : pvfp l2 q k = true := by
  obtain ⟨a, ha, hb⟩ := List.any_eq_true.mp h1
  have h2 := List.all_eq_true.mp h a ha
  exact List.any_eq_true.mpr ⟨a, by simpa using h2, hb⟩
theorem pvfp_r {l : List (Nat × Nat × Nat)} {q k r kk : Nat} (hr : pvrl q = r) (h : (l.contains (1, r, kk)) = true) (hk : kk = 0 ∨ kk = k + 1) : pvfp l q k = true := by
  refine List.any_eq_true.mpr ⟨(1, r, kk), by simpa using h, ?_⟩
  unfold pvfa
  rw [hr]
  have e : Nat.beq 1 0 = false := rfl
  rcases hk with rfl | rfl <;> simp [e]
theorem pvstrin {x : Int32} {k : Nat} {b : Int} (h0 : 0 ≤ x.toInt ∧ x.toInt ≤ b) (h : x < nI (zsl.getD k 0)) : vp_in x (zsl.getD k 0) := by
  have hl : ∀ k, k < 7 → zsl.getD k 0 ≤ 6 := by decide +kernel
  have h2 : zsl.getD k 0 ≤ 6 := by
    by_cases hk : k < 7
    · exact hl k hk
    · rw [List.getD_eq_getElem?_getD, List.getElem?_eq_none (by simp only [Nat.not_lt] at hk; exact hk)]; decide
  have h3 := (zi_lt _ _).mp h
  rw [nI_toInt (by omega)] at h3
  exact vp_in_iff.mpr ⟨h0.1, h3⟩
