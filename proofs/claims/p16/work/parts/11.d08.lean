/-! the class tries: COST of a row of windows, from any memory -/
theorem ypa_7 {M : pvM} (hok : pvOk M) (i : Nat) : ypa M 108 i < 7 ∧ ypa M 114 i < 7 := by
  have a := pvok_r hok 108 i (lo := 0) (hi := 6) rfl
  have b := pvok_r hok 114 i (lo := 0) (hi := 6) rfl
  have c := ycl a.1
  have d := ycl b.1
  unfold ypa
  omega
/-- all but when each is SHUT and what is tried -/
def yKt (M X : pvM) : Prop := ∀ q : Nat, q ≠ 12 → q ≠ 106 → q ≠ 114 → q ≠ 122 → X.1 q = M.1 q
theorem yKt_r (M : pvM) : yKt M M := fun _ _ _ _ _ => rfl
theorem yKt_t {M Y X : pvM} (h : yKt M Y) (k : yKt Y X) : yKt M X := fun q a b c d => (k q a b c d).trans (h q a b c d)
theorem yKt_12 {M X : pvM} (h : ∀ a : Nat, a ≠ 12 → X.1 a = M.1 a) : yKt M X := fun q a _ _ _ => h q a
theorem yKt_u {M X : pvM} {q k : Nat} {v : Int32} (e : X = pvu M q k v) (h : q = 106 ∨ q = 114 ∨ q = 122 ∨ q = 12) : yKt M X := fun a h1 h2 h3 h4 => funext fun b => pvu_n e a b (Or.inl (by omega))
theorem yKt_L {M X : pvM} (h : yKt M X) : yLk M X := fun a z => by
  have n := yfp_n z
  unfold yfp at z
  simp only [Bool.or_eq_false_iff, Bool.and_eq_false_iff, beq_eq_false_iff_ne, decide_eq_false_iff_not] at z
  exact h a n.1 (by omega) (by omega) (by omega)
theorem yKt_W {M X : pvM} (hok : pvOk M) (h : yKt M X) (w : yWS M) : yWS X := yWS_k hok w (yLk_K (yKt_L h)) (h 13 (by decide) (by decide) (by decide) (by decide)) (fun s _ => congrFun (h 14 (by decide) (by decide) (by decide) (by decide)) s)
theorem yKt_S {M X : pvM} (h : yKt M X) (w : ¬ M.1 14 (Int32.toNatClampNeg (M.1 5 1)) = 0) : ¬ X.1 14 (Int32.toNatClampNeg (X.1 5 1)) = 0 := by
  rw [h 14 (by decide) (by decide) (by decide) (by decide), h 5 (by decide) (by decide) (by decide) (by decide)]
  exact w
def yCq (M : pvM) (p : Nat → Nat) (m : Int) (n : Nat) (x : Int32) : Prop := yWS M → ¬ M.1 14 (Int32.toNatClampNeg (M.1 5 1)) = 0 → ∀ S : List yCl, zHC M (yHp M) S → x.toInt = yCp M S (M.1 5 1) (M.1 5 2).toInt p m n
def yRw (M X : pvM) (p : Nat → Nat) (m : Int) (n : Nat) (r : Option pvV) : Prop := (∀ q : Nat, q ≠ 12 → X.1 q = M.1 q) ∧ ∃ x : Int32, r = some (pvI x) ∧ yCq M p m n x
def yRt (M X : pvM) (p : Nat → Nat) (m : Int) (n : Nat) (r : Option pvV) : Prop := yKt M X ∧ ∃ x : Int32, r = some (pvI x) ∧ yCq M p m n x
theorem yCq_i {M B : pvM} {x : Int32} {p : Nat → Nat} {m : Int} {n : Nat} (hok : pvOk M) (f : ∀ q : Nat, q ≠ 12 → B.1 q = M.1 q) (d : yCo B x) (e : ∀ w : Nat, w < yWn M → (B.1 12 w).toInt = (yWa M p m n).2.2.2 w) : yCq M p m n x := fun hW hs S hS => by
  have k := yKt_12 f
  have r := pvok_r hok 5 2 (lo := 0) (hi := 108) rfl
  rw [yCo_L hok ⟨yKt_L k, fun _ => ⟨yKt_W hok k hW, yKt_S k hs⟩⟩ d hW hS, f 5 (by decide)]
  unfold yCp
  exact yCs_c hok (fun v hv => Or.inl (e v hv)) r.2
theorem yRw_i {M A B : pvM} {Q : Nat} {n4 x : Int32} {e : Option pvV} {p : Nat → Nat} {m : Int} {n : Nat} (hok : pvOk M) (no : yNo M A) (g : yGA Q 0 (A.1 Q 0) n4 e A B) (d : yCo B x) (hQ : Q ≠ 12) (hQ8 : Q + 8 ≠ 12) (hm : n4.toInt = m) (hn : (M.1 Q 0).toInt.toNat = n) (hp : ∀ i : Nat, i < n → ypa M (Q + 8) i = p i ∧ p i < 7) : yRw M B p m n (some (pvI x)) := by
  have w7 := yWn_i hok
  obtain ⟨f, y, ey, e1, e2⟩ := yGA_a (p := p) (n := n) hok (yLk_12 no.1) g (fun w hw => no.2 w (by omega)) (by rw [no.1 Q hQ]; exact hn) (fun i hi => by unfold ypa at hp ⊢; rw [no.1 _ hQ8]; exact hp i hi)
  have F : ∀ q : Nat, q ≠ 12 → B.1 q = M.1 q := fun q hq => (f q hq).trans (no.1 q hq)
  exact ⟨F, x, rfl, yCq_i hok F d (fun w hw => by rw [e2 w hw, hm])⟩
theorem yRw_R {M A B : pvM} {n1 x : Int32} {e : Option pvV} (hok : pvOk M) (hn : 0 ≤ n1.toInt ∧ n1.toInt ≤ 60) (no : yNo M A) (g : yGA 100 0 (A.1 100 0) ((A.1 8 4) + n1) e A B) (d : yCo B x) : yRw M B (yCr_p M) ((M.1 8 4).toInt + n1.toInt) (yCr_n M) (some (pvI x)) := by
  have r := pvok_r hok 8 4 (lo := 0) (hi := 9999) rfl
  refine yRw_i hok no g d (by decide) (by decide) ?_ rfl (fun i _ => ⟨rfl, (ypa_7 hok i).1⟩)
  rw [no.1 8 (by decide), zadd _ _ (by omega) (by omega)]
theorem yRw_T {M A B : pvM} {x : Int32} {e : Option pvV} (hok : pvOk M) (no : yNo M A) (g : yGA 106 0 (A.1 106 0) (A.1 8 4) e A B) (d : yCo B x) : yRw M B (ypa M 114) (M.1 8 4).toInt (Int32.toNatClampNeg (M.1 106 0)) (some (pvI x)) := yRw_i hok no g d (by decide) (by decide) (by rw [no.1 8 (by decide)]) rfl (fun i _ => ⟨rfl, (ypa_7 hok i).2⟩)
/-- what is tried was laid first -/
theorem yRt_i {M B X : pvM} {r : Option pvV} {p q : Nat → Nat} {m : Int} {n n' : Nat} (hok : pvOk M) (k : yKt M B) (h : yRw B X q m n' r) (hn : n' = n) (hp : ∀ i : Nat, i < n → q i = p i ∧ q i < 7) : yRt M X p m n r := by
  subst hn
  obtain ⟨f, x, ex, c⟩ := h
  refine ⟨yKt_t k (yKt_12 f), x, ex, fun hW hs S hS => ?_⟩
  have L := yKt_L k
  rw [c (yKt_W hok k hW) (yKt_S k hs) S (yLk_C hok L hS), k 5 (by decide) (by decide) (by decide) (by decide)]
  exact yCp_k hok L hp
theorem yRt_1 {M A B X : pvM} {n1 n2 : Int32} {r : Option pvV} (hok : pvOk M) (hn1 : 0 ≤ n1.toInt ∧ n1.toInt ≤ 6) (kA : yKt M A) (kB : yKt A B) (c : A.1 106 0 = 0) (ap : zAp 106 114 122 7 n1 n2 A B) (cB : B.1 106 0 = (if A.1 106 0 < Int32.ofNat 7 then A.1 106 0 + 1 else A.1 106 0)) (h : yRw B X (ypa B 114) (B.1 8 4).toInt (Int32.toNatClampNeg (B.1 106 0)) r) : yRt M X (fun _ => Int32.toNatClampNeg n1) (M.1 8 4).toInt 1 r := by
  have k := yKt_t kA kB
  rw [k 8 (by decide) (by decide) (by decide) (by decide)] at h
  have t := ycl hn1.1
  have u0 : (0 : Int32).toInt = 0 := by decide
  have e1 : Int32.toNatClampNeg (B.1 106 0) = 1 := by rw [cB, c]; decide
  refine yRt_i hok k h e1 (fun i hi => ?_)
  have i0 : i = 0 := by omega
  subst i0
  have e : B.1 114 0 = n1 := by
    rw [(ap.1 (by rw [c, u0]; decide)).1 0, c, ycl0, if_pos rfl]
  unfold ypa
  rw [e]
  exact ⟨rfl, by omega⟩
/-- one of the round is left out -/
def ysk (p : Nat → Nat) (i : Nat) : Nat → Nat := fun j => if j < i then p j else p (j + 1)
def ysn (i n : Nat) : Nat := if i < n then n - 1 else n
def yWI (M Y : pvM) (i n : Int32) : Prop := yKt M Y ∧ (Y.1 106 0).toInt = ysn (Int32.toNatClampNeg i) (Int32.toNatClampNeg n) ∧ ∀ j : Nat, j < ysn (Int32.toNatClampNeg i) (Int32.toNatClampNeg n) → ypa Y 114 j = ysk (yCr_p M) (Int32.toNatClampNeg i) j
theorem yWI_0 {M Y : pvM} {i : Int32} (k : yKt M Y) (c : Y.1 106 0 = 0) : yWI M Y i 0 := by
  have u0 : (0 : Int32).toInt = 0 := by decide
  refine ⟨k, by rw [c, u0, ycl0]; rfl, fun j hj => ?_⟩
  rw [ycl0] at hj
  unfold ysn at hj
  rw [if_neg (Nat.not_lt_zero _)] at hj
  exact absurd hj (Nat.not_lt_zero _)
theorem yWI_n {M Y : pvM} {i n n' : Int32} (h : yWI M Y i n) (h0 : 0 ≤ n.toInt) (h2 : n'.toInt = n.toInt + 1) (c : n = i) : yWI M Y i n' := by
  subst c
  have t := ycl h0
  have t2 : Int32.toNatClampNeg n' = Int32.toNatClampNeg n + 1 := by
    have := ycl (x := n') (by omega)
    omega
  have e : ysn (Int32.toNatClampNeg n) (Int32.toNatClampNeg n') = ysn (Int32.toNatClampNeg n) (Int32.toNatClampNeg n) := by
    unfold ysn
    rw [t2, if_pos (by omega), if_neg (by omega)]
    omega
  unfold yWI
  rw [e]
  exact h
theorem yWI_y {M Y X : pvM} {i n n' v n2 : Int32} (hY : pvOk Y) (h : yWI M Y i n) (h0 : 0 ≤ n.toInt ∧ n.toInt < (M.1 100 0).toInt) (hc : (M.1 100 0).toInt ≤ 7) (hi : 0 ≤ i.toInt) (h2 : n'.toInt = n.toInt + 1) (c : ¬ n = i) (k : yKt Y X) (ap : zAp 106 114 122 7 v n2 Y X) (hv : v = Y.1 108 (Int32.toNatClampNeg n)) (cX : X.1 106 0 = (if Y.1 106 0 < Int32.ofNat 7 then Y.1 106 0 + 1 else Y.1 106 0)) : yWI M X i n' := by
  obtain ⟨a, b, d⟩ := h
  have t := ycl h0.1
  have ti := ycl hi
  have t2 : Int32.toNatClampNeg n' = Int32.toNatClampNeg n + 1 := by
    have := ycl (x := n') (by omega)
    omega
  have ne : Int32.toNatClampNeg n ≠ Int32.toNatClampNeg i := fun z => c ((zi_eq _ _).mpr (by omega))
  have e : ysn (Int32.toNatClampNeg i) (Int32.toNatClampNeg n') = ysn (Int32.toNatClampNeg i) (Int32.toNatClampNeg n) + 1 := by
    unfold ysn
    rw [t2]
    split <;> split <;> omega
  have lt : ysn (Int32.toNatClampNeg i) (Int32.toNatClampNeg n) < 7 := by
    unfold ysn
    split <;> omega
  have u1 : (1 : Int32).toInt = 1 := by decide
  have o7 : (Int32.ofNat 7).toInt = 7 := by decide
  have ry := pvok_r hY 106 0 (lo := 0) (hi := 7) rfl
  have ty := ycl ry.1
  have l7 : (Y.1 106 0).toInt < 7 := by omega
  have ap := ap.1 l7
  have cs : yCr_p M (Int32.toNatClampNeg n) = Int32.toNatClampNeg (Y.1 108 (Int32.toNatClampNeg n)) := by
    unfold yCr_p ypa
    rw [a 108 (by decide) (by decide) (by decide) (by decide)]
  refine ⟨yKt_t a k, ?_, fun j hj => ?_⟩
  · rw [cX, if_pos (by rw [zi_lt, o7]; exact l7), zadd _ _ (by rw [u1]; omega) (by rw [u1]; omega), u1, b, e]
    omega
  · rw [e] at hj
    unfold ypa at d ⊢
    rw [ap.1 j]
    by_cases q : j = Int32.toNatClampNeg (Y.1 106 0)
    · rw [if_pos q, hv, ← cs]
      have jq : j = ysn (Int32.toNatClampNeg i) (Int32.toNatClampNeg n) := by omega
      unfold ysk
      rw [jq]
      unfold ysn
      split
      · rw [if_neg (by omega), show Int32.toNatClampNeg n - 1 + 1 = Int32.toNatClampNeg n by omega]
      · rw [if_pos (by omega)]
    · rw [if_neg q]
      exact d j (by omega)
theorem yRt_w {M Y X : pvM} {i n : Int32} {r : Option pvV} (hok : pvOk M) (h : yWI M Y i n) (h0 : 0 ≤ n.toInt ∧ n.toInt ≤ (M.1 100 0).toInt) (hl : (Y.1 100 0).toInt ≤ n.toInt) (d : yRw Y X (ypa Y 114) (Y.1 8 4).toInt (Int32.toNatClampNeg (Y.1 106 0)) r) : yRt M X (ysk (yCr_p M) (Int32.toNatClampNeg i)) (M.1 8 4).toInt (ysn (Int32.toNatClampNeg i) (yCr_n M)) r := by
  obtain ⟨a, b, c⟩ := h
  have t := ycl h0.1
  rw [a 8 (by decide) (by decide) (by decide) (by decide)] at d
  rw [a 100 (by decide) (by decide) (by decide) (by decide)] at hl
  have e : Int32.toNatClampNeg n = yCr_n M := by
    unfold yCr_n
    have := ycl (x := M.1 100 0) (by omega)
    omega
  rw [e] at b c
  refine yRt_i hok a d ?_ (fun j hj => ⟨c j hj, ?_⟩)
  · have := ycl (x := Y.1 106 0) (by omega)
    omega
  · rw [c j hj]
    unfold ysk yCr_p
    split
    · exact (ypa_7 hok _).1
    · exact (ypa_7 hok _).1
theorem ylt_k {M Y : pvM} (k : yKt M Y) {n : Int32} (h : ¬ Y.1 100 0 ≤ n) : n.toInt < (M.1 100 0).toInt := by
  rw [k 100 (by decide) (by decide) (by decide) (by decide), zi_le] at h
  omega
theorem yKt_fr {L : List (Nat × Nat × Nat)} {M X : pvM} (hf : pvFr (pvfp L) M X) (hx : ((L.all fun a => bif Nat.beq a.1 0 then Nat.blt a.2.1 168 else !(Nat.beq a.2.1 99)) && (List.range 168).all fun a => a == 12 || a == 106 || a == 114 || a == 122 || !pvfq L a) = true) : yKt M X := fun q h1 h2 h3 h4 => funext fun b => by
  rw [Bool.and_eq_true] at hx
  by_cases h : q < 168
  · have k := List.all_eq_true.mp hx.2 q (List.mem_range.mpr h)
    simp only [Bool.or_eq_true, beq_iff_eq, Bool.not_eq_true', h1, h2, h3, h4, false_or] at k
    exact hf q b (pvfq_p k b)
  · exact hf q b (pvfq_p (pvfq_o hx.1 (by omega)) b)
/-! looking ahead from M: the memory X, its SIDE, its COMES, when each is SHUT -/
def yIm (M X : pvM) (s co : Int32) : Prop := yLs M X ∧ X.1 5 1 = s ∧ X.1 5 2 = co
def ySh (M X : pvM) (sh : Nat → Int) : Prop := ∀ w : Nat, w < yWn M → (X.1 12 w).toInt = sh w
theorem yIm_B {M X : pvM} (h : yBN M X) : yIm M X (M.1 8 3) (M.1 8 2) := ⟨⟨yLk_B h.1, fun z => ⟨(h.2.2.2.1 z).1, by rw [h.2.1]; exact (h.2.2.2.1 z).2⟩⟩, h.2.1, h.2.2.1⟩
theorem ySh_B {M X : pvM} (hok : pvOk M) (h : yBN M X) : ySh M X (ysI M) := fun w hw => by
  have w7 := yWn_7 hok
  have wi := yWn_i hok
  rw [h.2.2.2.2 w (by omega)]
  exact ysI_s (by omega)
theorem yIm_t {M X Y : pvM} {s co : Int32} (hX : pvOk X) (h : yIm M X s co) (k : yKt X Y) : yIm M Y s co := ⟨⟨yLk_t h.1.1 (yKt_L k), fun z => ⟨yKt_W hX k (h.1.2 z).1, yKt_S k (h.1.2 z).2⟩⟩, by rw [k 5 (by decide) (by decide) (by decide) (by decide)]; exact h.2.1, by rw [k 5 (by decide) (by decide) (by decide) (by decide)]; exact h.2.2⟩
theorem yIm_2 {M X Y : pvM} {s co : Int32} (hX : pvOk X) (h : yIm M X s co) (k : ∀ q : Nat, q ≠ 12 → Y.1 q = X.1 q) : yIm M Y s co := yIm_t hX h (yKt_12 k)
/-- COMES is told otherwise -/
theorem yIm_c {M X Y : pvM} {s co v : Int32} (hX : pvOk X) (h : yIm M X s co) (e : Y = pvu X 5 2 v) : yIm M Y s v := by
  have k : yLk X Y := yLk_u e rfl
  have c : ∀ a b : Nat, (a ≠ 5 ∨ b ≠ 2) → Y.1 a b = X.1 a b := fun a b z => pvu_n e a b z
  refine ⟨⟨yLk_t h.1.1 k, fun z => ⟨yWS_k hX (h.1.2 z).1 (yLk_K k) (funext fun b => c 13 b (Or.inl (by decide))) (fun s _ => c 14 s (Or.inl (by decide))), ?_⟩⟩, (c 5 1 (by decide)).trans h.2.1, pvu_s e⟩
  rw [c 5 1 (by decide), c 14 _ (Or.inl (by decide))]
  exact (h.1.2 z).2
theorem ySh_c {M X Y : pvM} {sh : Nat → Int} {q k : Nat} {v : Int32} (h : ySh M X sh) (e : Y = pvu X q k v) (hq : q ≠ 12) : ySh M Y sh := fun w hw => by
  rw [pvu_n e 12 w (Or.inl (Ne.symm hq))]
  exact h w hw
/-- SIDE is told otherwise -/
theorem yIm_T {M X Y : pvM} {s co n1 : Int32} (h : yIm M X s co) (t : yTT n1 X Y) (hn : 0 ≤ n1.toInt ∧ n1.toInt < 4) : yIm M Y n1 co := by
  obtain ⟨a, b, c⟩ := t hn.1 hn.2
  exact ⟨⟨yLk_t h.1.1 (yLk_T a), fun z => by rw [b]; exact c (h.1.2 z).1⟩, b, (a 5 2 (by decide) (by decide) (by decide) (by decide)).trans h.2.2⟩
theorem ySh_T {M X Y : pvM} {sh : Nat → Int} {n1 : Int32} (h : ySh M X sh) (t : yTT n1 X Y) (hn : 0 ≤ n1.toInt ∧ n1.toInt < 4) : ySh M Y sh := fun w hw => by
  obtain ⟨a, b, c⟩ := t hn.1 hn.2
  rw [a 12 w (by decide) (by decide) (by decide) (Or.inl (by decide))]
  exact h w hw
/-- COST there -/
theorem yIm_C {M X : pvM} {s co x : Int32} {sh : Nat → Int} {S : List yCl} (hok : pvOk M) (hX : pvOk X) (h : yIm M X s co) (k : ySh M X sh) (d : yCo X x) (hW : yWS M) (hS : zHC M (yHp M) S) : x.toInt = yCs M S s co.toInt sh := by
  have r := pvok_r hX 5 2 (lo := 0) (hi := 108) rfl
  rw [yCo_L hok h.1 d hW hS, h.2.1, h.2.2]
  rw [h.2.2] at r
  exact yCs_c hok (fun v hv => Or.inl (k v hv)) r.2
theorem yIm_q {M X : pvM} {s co x : Int32} {S : List yCl} {p q : Nat → Nat} {m : Int} {n : Nat} (hok : pvOk M) (h : yIm M X s co) (d : yCq X q m n x) (hp : ∀ i : Nat, i < n → q i = p i ∧ q i < 7) (hW : yWS M) (hS : zHC M (yHp M) S) : x.toInt = yCp M S s co.toInt p m n := by
  rw [d (h.1.2 hW).1 (h.1.2 hW).2 S (yLk_C hok h.1.1 hS), h.2.1, h.2.2]
  exact yCp_k hok h.1.1 hp
/-! what a call of the class answers, what of one of the reference -/
/-- what is told by hand names WINDOWS that are there -/
def yBw (M : pvM) : Prop := (∀ i : Nat, i < yCr_n M → yCr_p M i < yWn M) ∧ ∀ i : Nat, i < Int32.toNatClampNeg (M.1 102 0) → ypa M 110 i < yWn M
def yAn (G : pvM → List yCl → Int) (r : Option pvV) (M X : pvM) : Prop := yWS M → yWS X ∧ ∀ S : List yCl, zHC M (yHp M) S → yBw M → ∃ x : Int32, r = some (pvI x) ∧ x.toInt = G M S
def yAj (G : pvM → List yCl → Int) (r : Option pvV) (M X : pvM) : Prop := yWS M → yWS X ∧ ∀ S : List yCl, zHC M (yHp M) S → yBw M → ∃ x : Int64, r = some (pvJ x) ∧ x.toInt = G M S
def yCall (A B : pvM) (S : List yCl) : Prop := yCb A B S ∧ yCr A B ∧ yCw A B ∧ yCn A B
def yA0 (G : pvM → List yCl → Int) (r : Option pvV) (B : pvM) : Prop := ∀ (A : pvM) (S : List yCl), yCall A B S → ∃ x : Int32, r = some (pvI x) ∧ x.toInt = G A S
def yB0j (G : pvM → List yCl → Int) (r : Option pvV) (B : pvM) : Prop := ∀ (A : pvM) (S : List yCl), yCall A B S → ∃ x : Int64, r = some (pvJ x) ∧ x.toInt = G A S
theorem yBw_c {A B : pvM} {S : List yCl} (c : yCall A B S) : yBw A := by
  have hA := c.1.1.1.1
  have wi := yWn_i hA
  refine ⟨fun i hi => (yCr_i hA c.2.1 hi).2.1, fun i hi => ?_⟩
  have r := pvok_r hA 102 0 (lo := 0) (hi := 6) rfl
  have t := ycl r.1
  obtain ⟨_, _, z⟩ := c.2.2.1.1.2 i (by omega) (by omega)
  have tz := ycl z.1
  have z2 := z.2
  unfold ypa
  omega
theorem yAn_e {G : pvM → List yCl → Int} {M Y B : pvM} {S : List yCl} {v w : Int32} (h : yAn G (some (pvI v)) M Y) (k : yA0 G (some (pvI w)) B) (hW : yWS M) (c : yCall M B S) : v = w := by
  obtain ⟨x, ex, x1⟩ := (h hW).2 S c.1.1.1.2.1 (yBw_c c)
  obtain ⟨y, ey, y1⟩ := k M S c
  have ex := zpI ex
  have ey := zpI ey
  subst ex ey
  exact (zi_eq _ _).mpr (x1.trans y1.symm)
theorem zpJ {x y : Int64} (e : (some (pvJ x) : Option pvV) = some (pvJ y)) : x = y := Sum.inl.inj (Sum.inr.inj (Option.some.inj e))
theorem yAj_e {G : pvM → List yCl → Int} {M Y B : pvM} {S : List yCl} {v w : Int64} (h : yAj G (some (pvJ v)) M Y) (k : yB0j G (some (pvJ w)) B) (hW : yWS M) (c : yCall M B S) : v = w := by
  obtain ⟨x, ex, x1⟩ := (h hW).2 S c.1.1.1.2.1 (yBw_c c)
  obtain ⟨y, ey, y1⟩ := k M S c
  have ex := zpJ ex
  have ey := zpJ ey
  subst ex ey
  exact Int64.toInt_inj.mp (x1.trans y1.symm)
/-- nothing is looked at -/
theorem yAn_n {G : pvM → List yCl → Int} {x : Int32} {M : pvM} (h : ∀ S : List yCl, G M S = x.toInt) : yAn G (some (pvI x)) M M := fun z => ⟨z, fun S _ _ => ⟨x, rfl, (h S).symm⟩⟩
theorem yAj_n {G : pvM → List yCl → Int} {x : Int64} {M : pvM} (h : ∀ S : List yCl, G M S = x.toInt) : yAj G (some (pvJ x)) M M := fun z => ⟨z, fun S _ _ => ⟨x, rfl, (h S).symm⟩⟩
theorem yA0_n {G : pvM → List yCl → Int} {x : Int32} {B : pvM} (h : ∀ (A : pvM) (S : List yCl), G A S = x.toInt) : yA0 G (some (pvI x)) B := fun A S _ => ⟨x, rfl, (h A S).symm⟩
theorem yAn_i {G : pvM → List yCl → Int} {x s co : Int32} {M X : pvM} (h : yIm M X s co) (k : yWS M → ∀ S : List yCl, zHC M (yHp M) S → yBw M → x.toInt = G M S) : yAn G (some (pvI x)) M X := fun z => ⟨(h.1.2 z).1, fun S hS hB => ⟨x, rfl, k z S hS hB⟩⟩
theorem yAj_i {G : pvM → List yCl → Int} {x : Int64} {s co : Int32} {M X : pvM} (h : yIm M X s co) (k : yWS M → ∀ S : List yCl, zHC M (yHp M) S → yBw M → x.toInt = G M S) : yAj G (some (pvJ x)) M X := fun z => ⟨(h.1.2 z).1, fun S hS hB => ⟨x, rfl, k z S hS hB⟩⟩
/-! her round -/
def yrW (A : pvM) : yWs := yWa A (yCr_p A) (A.1 8 4).toInt (yCr_n A)
def yrC (A : pvM) (S : List yCl) (t : Int) : Int := yCp A S (A.1 8 3) (A.1 8 2).toInt (yCr_p A) ((A.1 8 4).toInt + t) (yCr_n A)
def yit (sh : Nat → Int) (p : Nat → Nat) (co : Int) : Nat → Int
  | 0 => 0
  | n + 1 => if sh (p n) ≤ co then yit sh p co n + 1 else yit sh p co n
theorem yit_c {sh sh' : Nat → Int} {p p' : Nat → Nat} {co : Int} : ∀ {n : Nat}, (∀ i : Nat, i < n → p i = p' i ∧ (sh (p i) ≤ co ↔ sh' (p i) ≤ co)) → yit sh p co n = yit sh' p' co n
  | 0, _ => rfl
  | n + 1, h => by
    obtain ⟨a, b⟩ := h n (by omega)
    show (if sh (p n) ≤ co then yit sh p co n + 1 else yit sh p co n) = (if sh' (p' n) ≤ co then yit sh' p' co n + 1 else yit sh' p' co n)
    rw [yit_c (fun i hi => h i (by omega)), ← a]
    by_cases c : sh (p n) ≤ co
    · rw [if_pos c, if_pos (b.mp c)]
    · rw [if_neg c, if_neg (fun z => c (b.mpr z))]
/-- round's answer -/
def yGrd (w : Int32) (A : pvM) (S : List yCl) : Int := if w.toInt < 0 ∨ 2 < w.toInt then -1 else if w.toInt = 0 then yrC A S 0 else if w.toInt = 1 then (yrW A).1 else yit (yrW A).2.2.2 (yCr_p A) (A.1 8 2).toInt (yCr_n A)
/-- behind beginFromNow and goRound -/
def yRn9 (M Y : pvM) (e : Option pvV) : Prop := yIm M Y (M.1 8 3) (M.1 8 2) ∧ ySh M Y (yrW M).2.2.2 ∧ ∃ x : Int32, e = some (pvI x) ∧ x.toInt = (yrW M).1
theorem yGA_u {M Z X : pvM} {Q : Nat} {n4 : Int32} {r : Option pvV} {m : Int} (hok : pvOk M) (k : yLk M Z) (g : yGA Q 0 (Z.1 Q 0) n4 r Z X) (hQ : Q = 100) (hs : ∀ w : Nat, w < yWn M → Z.1 12 w = yNs M w) (hm : n4.toInt = m) : (∀ q : Nat, q ≠ 12 → X.1 q = Z.1 q) ∧ ∃ x : Int32, r = some (pvI x) ∧ x.toInt = (yWa M (yCr_p M) m (yCr_n M)).1 ∧ ySh M X (yWa M (yCr_p M) m (yCr_n M)).2.2.2 := by
  subst hQ
  have e1 : Z.1 100 = M.1 100 := k 100 (by decide)
  have e8 : Z.1 108 = M.1 108 := k 108 (by decide)
  have d := yGA_a (p := yCr_p M) (n := yCr_n M) hok k g hs (by rw [e1]; rfl) (fun i hi => by
    unfold yCr_p
    have z := (ypa_7 hok i).1
    unfold ypa at z ⊢
    rw [e8]
    exact ⟨rfl, z⟩)
  rw [hm] at d
  exact d
theorem yRn9_i {M Z Y : pvM} {e : Option pvV} (hok : pvOk M) (hZ : pvOk Z) (b : yBN M Z) (g : yGA 100 0 (Z.1 100 0) ((Z.1 8 4) + 0) e Z Y) : yRn9 M Y e := by
  have wi := yWn_i hok
  have r4 := pvok_r hok 8 4 (lo := 0) (hi := 9999) rfl
  have u0 : (0 : Int32).toInt = 0 := by decide
  have k := yLk_B b.1
  obtain ⟨f, x, ex, e1, e2⟩ := yGA_u hok k g rfl (fun w hw => b.2.2.2.2 w (by omega)) (show _ = (M.1 8 4).toInt by rw [k 8 (by decide), zadd _ _ (by rw [u0]; omega) (by rw [u0]; omega), u0, Int.add_zero])
  exact ⟨yIm_2 hZ (yIm_B b) f, e2, x, ex, e1⟩
theorem yGrd_n {w x : Int32} {M : pvM} (h : w.toInt < 0 ∨ 2 < w.toInt) (e : x.toInt = -1) : yAn (yGrd w) (some (pvI x)) M M := yAn_n (fun S => by unfold yGrd; rw [if_pos h, e])
theorem yGrd_0 {w x : Int32} {M Y : pvM} {e : Option pvV} (hok : pvOk M) (hY : pvOk Y) (h : yRn9 M Y e) (c : ¬ (w.toInt < 0 ∨ 2 < w.toInt)) (d : w.toInt = 0) (k : yCo Y x) : yAn (yGrd w) (some (pvI x)) M Y := yAn_i h.1 (fun hW S hS hB => by
  unfold yGrd yrC
  rw [if_neg c, if_pos d, yIm_C hok hY h.1 h.2.1 k hW hS, Int.add_zero]
  rfl)
theorem yGrd_1 {w x : Int32} {M Y : pvM} (h : yRn9 M Y (some (pvI x))) (c : ¬ (w.toInt < 0 ∨ 2 < w.toInt)) (d : w.toInt = 1) : yAn (yGrd w) (some (pvI x)) M Y := yAn_i h.1 (fun hW S hS hB => by
  obtain ⟨_, _, y, ey, e1⟩ := h
  unfold yGrd
  rw [if_neg c, if_neg (by omega), if_pos d, zpI ey, e1])
theorem yGrd_2 {w x : Int32} {M Y : pvM} {e : Option pvV} (hok : pvOk M) (h : yRn9 M Y e) (c : ¬ (w.toInt < 0 ∨ 2 < w.toInt)) (d0 : ¬ w.toInt = 0) (d : ¬ w.toInt = 1) (k : x.toInt = yit (fun v => (Y.1 12 v).toInt) (ypa Y 108) (Y.1 5 2).toInt (Int32.toNatClampNeg (Y.1 100 0))) : yAn (yGrd w) (some (pvI x)) M Y := yAn_i h.1 (fun hW S hS hB => by
  have L := h.1.1.1
  unfold yGrd
  rw [if_neg c, if_neg d0, if_neg d, k, h.1.2.2]
  have e1 : Y.1 100 = M.1 100 := L 100 (by decide)
  have e8 : Y.1 108 = M.1 108 := L 108 (by decide)
  rw [e1]
  refine yit_c (fun i hi => ?_)
  unfold ypa
  rw [e8]
  exact ⟨rfl, by have z := h.2.1 _ (hB.1 i hi); unfold yCr_p ypa at z; rw [z]⟩)
/-! in time -/
def ySt (M : pvM) (n i : Int32) : Prop := i.toInt ≤ (M.1 100 0).toInt ∧ n.toInt = yit (fun v => (M.1 12 v).toInt) (ypa M 108) (M.1 5 2).toInt (Int32.toNatClampNeg i)
theorem ySt_0 {M : pvM} (hok : pvOk M) : ySt M 0 0 := by
  have r := pvok_r hok 100 0 (lo := 0) (hi := 7) rfl
  have u0 : (0 : Int32).toInt = 0 := by decide
  exact ⟨by omega, by rw [ycl0]; exact u0⟩
theorem yit_b {sh : Nat → Int} {p : Nat → Nat} {co : Int} : ∀ n : Nat, 0 ≤ yit sh p co n ∧ yit sh p co n ≤ n
  | 0 => ⟨Int.le_refl _, Int.le_refl _⟩
  | n + 1 => by
    have i := yit_b (sh := sh) (p := p) (co := co) n
    show 0 ≤ (if sh (p n) ≤ co then yit sh p co n + 1 else yit sh p co n) ∧ (if sh (p n) ≤ co then yit sh p co n + 1 else yit sh p co n) ≤ ((n + 1 : Nat) : Int)
    split <;> omega
theorem ySt_s {M : pvM} {n n' i i' : Int32} (hok : pvOk M) (h : ySt M n i) (h0 : 0 ≤ i.toInt) (hl : i.toInt < (M.1 100 0).toInt) (h2 : i'.toInt = i.toInt + 1) (c : (M.1 12 (Int32.toNatClampNeg (M.1 108 (Int32.toNatClampNeg i))) ≤ M.1 5 2 ∧ n' = n + 1) ∨ (¬ M.1 12 (Int32.toNatClampNeg (M.1 108 (Int32.toNatClampNeg i))) ≤ M.1 5 2 ∧ n' = n)) : ySt M n' i' := by
  have t := ycl h0
  have r := pvok_r hok 100 0 (lo := 0) (hi := 7) rfl
  have u1 : (1 : Int32).toInt = 1 := by decide
  have t2 : Int32.toNatClampNeg i' = Int32.toNatClampNeg i + 1 := by
    have := ycl (x := i') (by omega)
    omega
  refine ⟨by omega, ?_⟩
  have bd := yit_b (sh := fun v => (M.1 12 v).toInt) (p := ypa M 108) (co := (M.1 5 2).toInt) (Int32.toNatClampNeg i)
  have e := h.2
  rw [t2]
  show _ = if (M.1 12 (Int32.toNatClampNeg (M.1 108 (Int32.toNatClampNeg i)))).toInt ≤ (M.1 5 2).toInt then _ else _
  rcases c with ⟨a, b⟩ | ⟨a, b⟩
  · rw [if_pos ((zi_le _ _).mp a), b, zadd _ _ (by rw [u1]; omega) (by rw [u1]; omega), u1, h.2]
  · rw [if_neg (fun z => a ((zi_le _ _).mpr z)), b, h.2]
theorem ySt_e {M : pvM} {n i : Int32} (h : ySt M n i) (h0 : 0 ≤ i.toInt) (c : M.1 100 0 ≤ i) : n.toInt = yit (fun v => (M.1 12 v).toInt) (ypa M 108) (M.1 5 2).toInt (Int32.toNatClampNeg (M.1 100 0)) := by
  have c := (zi_le _ _).mp c
  have e : M.1 100 0 = i := (zi_eq _ _).mpr (by have := h.1; omega)
  rw [e]
  exact h.2
/-! COST of what is tried, from M -/
theorem yLk_p {M X : pvM} (k : yLk M X) : yCr_p X = yCr_p M := by
  unfold yCr_p ypa
  rw [k 108 (by decide)]
theorem yLk_n {M X : pvM} (k : yLk M X) : yCr_n X = yCr_n M := by
  unfold yCr_n
  rw [k 100 (by decide)]
theorem yRw_m {M X Y : pvM} {s co x : Int32} {t : Int} (hok : pvOk M) (h : yIm M X s co) (d : yRw X Y (yCr_p X) ((X.1 8 4).toInt + t) (yCr_n X) (some (pvI x))) (hW : yWS M) {S : List yCl} (hS : zHC M (yHp M) S) : x.toInt = yCp M S s co.toInt (yCr_p M) ((M.1 8 4).toInt + t) (yCr_n M) := by
  obtain ⟨_, y, ey, q⟩ := d
  have ey := zpI ey
  subst ey
  rw [yLk_p h.1.1, yLk_n h.1.1, h.1.1 8 (by decide)] at q
  exact yIm_q hok h q (fun i _ => ⟨rfl, (ypa_7 hok i).1⟩) hW hS
theorem yRt_m {M X Y : pvM} {s co x : Int32} {p q : Nat → Nat} {n n' : Nat} (hok : pvOk M) (h : yIm M X s co) (d : yRt X Y q (X.1 8 4).toInt n' (some (pvI x))) (hn : n' = n) (hp : ∀ i : Nat, i < n → q i = p i ∧ q i < 7) (hW : yWS M) {S : List yCl} (hS : zHC M (yHp M) S) : x.toInt = yCp M S s co.toInt p (M.1 8 4).toInt n := by
  subst hn
  obtain ⟨_, y, ey, c⟩ := d
  have ey := zpI ey
  subst ey
  rw [h.1.1 8 (by decide)] at c
  exact yIm_q hok h c hp hW hS
/-! late -/
def yLt (f : Int → Int) (q : Int) : Nat → Int
  | 0 => -5
  | n + 1 => if f n ≤ q then n else yLt f q n
def yGlt (q : Int32) (A : pvM) (S : List yCl) : Int := if q.toInt < 0 ∨ 99999 < q.toInt then -2 else yLt (yrC A S) q.toInt 61
def yLtI (M X : pvM) (q i : Int32) : Prop := yIm M X (M.1 8 3) (M.1 8 2) ∧ (yWS M → ∀ S : List yCl, zHC M (yHp M) S → yLt (yrC M S) q.toInt 61 = yLt (yrC M S) q.toInt (i.toInt + 1).toNat)
theorem yLtI_0 {M X : pvM} {q i : Int32} (h : yBN M X) (hi : i.toInt = 60) : yLtI M X q i := ⟨yIm_B h, fun _ _ _ => by rw [hi]; rfl⟩
theorem yLtI_c {M X Y : pvM} {q i x : Int32} (hok : pvOk M) (h : yLtI M X q i) (hi : 0 ≤ i.toInt) (d : yRw X Y (yCr_p X) ((X.1 8 4).toInt + i.toInt) (yCr_n X) (some (pvI x))) (hW : yWS M) {S : List yCl} (hS : zHC M (yHp M) S) : yLt (yrC M S) q.toInt 61 = if x.toInt ≤ q.toInt then i.toInt else yLt (yrC M S) q.toInt i.toInt.toNat := by
  rw [h.2 hW S hS, show (i.toInt + 1).toNat = i.toInt.toNat + 1 by omega, yRw_m hok h.1 d hW hS]
  show (if yrC M S ((i.toInt.toNat : Nat) : Int) ≤ q.toInt then ((i.toInt.toNat : Nat) : Int) else _) = _
  rw [show ((i.toInt.toNat : Nat) : Int) = i.toInt by omega]
  rfl
theorem yLtI_s {M X Y : pvM} {q i i' x : Int32} (hok : pvOk M) (hX : pvOk X) (h : yLtI M X q i) (hi : 0 ≤ i.toInt) (d : yRw X Y (yCr_p X) ((X.1 8 4).toInt + i.toInt) (yCr_n X) (some (pvI x))) (c : ¬ x ≤ q) (hi2 : i'.toInt = i.toInt - 1) : yLtI M Y q i' := ⟨yIm_2 hX h.1 d.1, fun hW S hS => by
  rw [yLtI_c hok h hi d hW hS, if_neg (fun z => c ((zi_le _ _).mpr z)), hi2, show i.toInt - 1 + 1 = i.toInt by omega]⟩
theorem yGlt_n {M : pvM} {q x : Int32} (h : q.toInt < 0 ∨ 99999 < q.toInt) (e : x.toInt = -2) : yAn (yGlt q) (some (pvI x)) M M := yAn_n (fun S => by unfold yGlt; rw [if_pos h, e])
theorem yGlt_y {M X Y : pvM} {q i x : Int32} (hok : pvOk M) (hX : pvOk X) (h : yLtI M X q i) (hq : 0 ≤ q.toInt ∧ q.toInt ≤ 99999) (hi : 0 ≤ i.toInt) (d : yRw X Y (yCr_p X) ((X.1 8 4).toInt + i.toInt) (yCr_n X) (some (pvI x))) (c : x ≤ q) : yAn (yGlt q) (some (pvI i)) M Y := yAn_i (yIm_2 hX h.1 d.1) (fun hW S hS hB => by
  unfold yGlt
  rw [if_neg (by omega), yLtI_c hok h hi d hW hS, if_pos ((zi_le _ _).mp c)])
theorem yGlt_e {M X : pvM} {q i x : Int32} (h : yLtI M X q i) (hq : 0 ≤ q.toInt ∧ q.toInt ≤ 99999) (hi : i.toInt < 0) (e : x.toInt = -5) : yAn (yGlt q) (some (pvI x)) M X := yAn_i h.1 (fun hW S hS hB => by
  unfold yGlt
  rw [if_neg (by omega), h.2 hW S hS, show (i.toInt + 1).toNat = 0 by omega, e]
  rfl)
/-! leave -/
def ylC (A : pvM) (S : List yCl) (n : Nat) : Int := yCp A S (A.1 8 3) (A.1 8 2).toInt (ysk (yCr_p A) n) (A.1 8 4).toInt (ysn n (yCr_n A))
def yLv (A : pvM) (S : List yCl) : Nat → Int32
  | 0 => 0
  | n + 1 => if ylC A S n ≤ yrC A S 0 then yLv A S n ||| (1 <<< (A.1 108 n &&& 31)) else yLv A S n
def yGlv (A : pvM) (S : List yCl) : Int := (yLv A S (yCr_n A)).toInt
def yLvI (M X : pvM) (w b i : Int32) : Prop := yIm M X (M.1 8 3) (M.1 8 2) ∧ i.toInt ≤ (M.1 100 0).toInt ∧ (yWS M → ∀ S : List yCl, zHC M (yHp M) S → w.toInt = yrC M S 0 ∧ b = yLv M S (Int32.toNatClampNeg i))
theorem yLvI_0 {M X Y : pvM} {w : Int32} (hok : pvOk M) (hX : pvOk X) (h : yBN M X) (d : yRw X Y (yCr_p X) ((X.1 8 4).toInt + Int32.toInt 0) (yCr_n X) (some (pvI w))) : yLvI M Y w 0 0 := by
  have u0 : (0 : Int32).toInt = 0 := by decide
  have r := pvok_r hok 100 0 (lo := 0) (hi := 7) rfl
  refine ⟨yIm_2 hX (yIm_B h) d.1, by omega, fun hW S hS => ⟨?_, by rw [ycl0]; rfl⟩⟩
  have e := yRw_m hok (yIm_B h) d hW hS
  rw [u0] at e
  exact e
theorem yLvI_c {M X Y : pvM} {w b i x : Int32} (hok : pvOk M) (h : yLvI M X w b i) (d : yRt X Y (ysk (yCr_p X) (Int32.toNatClampNeg i)) (X.1 8 4).toInt (ysn (Int32.toNatClampNeg i) (yCr_n X)) (some (pvI x))) (hW : yWS M) {S : List yCl} (hS : zHC M (yHp M) S) : x.toInt = ylC M S (Int32.toNatClampNeg i) := by
  have L := h.1.1.1
  refine yRt_m hok h.1 d (by rw [yLk_n L]) (fun j _ => ⟨by rw [yLk_p L], ?_⟩) hW hS
  rw [yLk_p L]
  unfold ysk yCr_p
  split <;> exact (ypa_7 hok _).1
theorem yLvI_y {M X Y : pvM} {w b b' i i' x : Int32} (hok : pvOk M) (hX : pvOk X) (h : yLvI M X w b i) (hi : 0 ≤ i.toInt) (hl : ¬ X.1 100 0 ≤ i) (d : yRt X Y (ysk (yCr_p X) (Int32.toNatClampNeg i)) (X.1 8 4).toInt (ysn (Int32.toNatClampNeg i) (yCr_n X)) (some (pvI x))) (c : x ≤ w) (hb : b' = b ||| (1 <<< (Y.1 108 (Int32.toNatClampNeg i) &&& 31))) (hi2 : i'.toInt = i.toInt + 1) : yLvI M Y w b' i' := by
  have L := h.1.1.1
  have kY := yIm_t hX h.1 d.1
  rw [L 100 (by decide), zi_le] at hl
  have t := ycl hi
  have t2 : Int32.toNatClampNeg i' = Int32.toNatClampNeg i + 1 := by
    have := ycl (x := i') (by omega)
    omega
  refine ⟨kY, by omega, fun hW S hS => ⟨(h.2.2 hW S hS).1, ?_⟩⟩
  obtain ⟨e1, e2⟩ := h.2.2 hW S hS
  have e3 := yLvI_c hok h d hW hS
  rw [t2, hb, kY.1.1 108 (by decide)]
  show _ = if ylC M S (Int32.toNatClampNeg i) ≤ yrC M S 0 then _ else _
  rw [if_pos (by rw [← e3, ← e1]; exact (zi_le _ _).mp c), e2]
theorem yLvI_n {M X Y : pvM} {w b i i' x : Int32} (hok : pvOk M) (hX : pvOk X) (h : yLvI M X w b i) (hi : 0 ≤ i.toInt) (hl : ¬ X.1 100 0 ≤ i) (d : yRt X Y (ysk (yCr_p X) (Int32.toNatClampNeg i)) (X.1 8 4).toInt (ysn (Int32.toNatClampNeg i) (yCr_n X)) (some (pvI x))) (c : ¬ x ≤ w) (hi2 : i'.toInt = i.toInt + 1) : yLvI M Y w b i' := by
  have L := h.1.1.1
  have kY := yIm_t hX h.1 d.1
  rw [L 100 (by decide), zi_le] at hl
  have t := ycl hi
  have t2 : Int32.toNatClampNeg i' = Int32.toNatClampNeg i + 1 := by
    have := ycl (x := i') (by omega)
    omega
  refine ⟨kY, by omega, fun hW S hS => ⟨(h.2.2 hW S hS).1, ?_⟩⟩
  obtain ⟨e1, e2⟩ := h.2.2 hW S hS
  have e3 := yLvI_c hok h d hW hS
  rw [t2]
  show _ = if ylC M S (Int32.toNatClampNeg i) ≤ yrC M S 0 then _ else _
  rw [if_neg (by rw [← e3, ← e1]; exact fun z => c ((zi_le _ _).mpr z)), e2]
theorem yGlv_e {M X : pvM} {w b i : Int32} (h : yLvI M X w b i) (hi : 0 ≤ i.toInt) (c : X.1 100 0 ≤ i) : yAn yGlv (some (pvI b)) M X := yAn_i h.1 (fun hW S hS hB => by
  rw [h.1.1.1 100 (by decide), zi_le] at c
  have e : M.1 100 0 = i := (zi_eq _ _).mpr (by have := h.2.1; omega)
  unfold yGlv yCr_n
  rw [e, (h.2.2 hW S hS).2])
/-! next -/
def yN1 (A : pvM) (S : List yCl) (w : Nat) : Int := yCp A S (A.1 8 3) (A.1 8 2).toInt (fun _ => w) (A.1 8 4).toInt 1
def yNx (A : pvM) (S : List yCl) : Nat → Int × Int
  | 0 => (-5, 0)
  | n + 1 => if A.1 (60 + n) 5 = 0 then (if (yNx A S n).1 = -5 ∨ yN1 A S n < (yNx A S n).2 then ((n : Int), yN1 A S n) else yNx A S n) else yNx A S n
def yGnx (A : pvM) (S : List yCl) : Int := (yNx A S (yWn A)).1
def yNxI (M X : pvM) (f l w : Int32) : Prop := yIm M X (M.1 8 3) (M.1 8 2) ∧ w.toInt ≤ (M.1 8 1).toInt ∧ (yWS M → ∀ S : List yCl, zHC M (yHp M) S → f.toInt = (yNx M S (Int32.toNatClampNeg w)).1 ∧ l.toInt = (yNx M S (Int32.toNatClampNeg w)).2)
theorem yNxI_0 {M X : pvM} {f : Int32} (hok : pvOk M) (h : yBN M X) (hf : f.toInt = -5) : yNxI M X f 0 0 := by
  have u0 : (0 : Int32).toInt = 0 := by decide
  have r := pvok_r hok 8 1 (lo := 0) (hi := 7) rfl
  exact ⟨yIm_B h, by omega, fun _ _ _ => by rw [ycl0]; exact ⟨hf, u0⟩⟩
theorem yNxI_z {M X : pvM} {f l w w' : Int32} (hok : pvOk M) (h : yNxI M X f l w) (hw : 0 ≤ w.toInt) (hl : ¬ X.1 8 1 ≤ w) (c : ¬ X.1 (pvbs 10 + Int32.toNatClampNeg w) 5 = 0) (h2 : w'.toInt = w.toInt + 1) : yNxI M X f l w' := by
  have L := h.1.1.1
  have r := pvok_r hok 8 1 (lo := 0) (hi := 7) rfl
  rw [L 8 (by decide), zi_le] at hl
  have t := ycl hw
  have t2 : Int32.toNatClampNeg w' = Int32.toNatClampNeg w + 1 := by
    have := ycl (x := w') (by omega)
    omega
  have pb : pvbs 10 = 60 := rfl
  rw [pb, L (60 + Int32.toNatClampNeg w) (yfp_p (by omega) (by omega))] at c
  refine ⟨h.1, by omega, fun hW S hS => ?_⟩
  rw [t2]
  show _ = (if M.1 (60 + Int32.toNatClampNeg w) 5 = 0 then _ else _ : Int × Int).1 ∧ _ = (if M.1 (60 + Int32.toNatClampNeg w) 5 = 0 then _ else _ : Int × Int).2
  rw [if_neg c]
  exact h.2.2 hW S hS
theorem yNxI_c {M X Y : pvM} {f l w w' x : Int32} (hok : pvOk M) (hX : pvOk X) (h : yNxI M X f l w) (hw : 0 ≤ w.toInt) (hl : ¬ X.1 8 1 ≤ w) (c : X.1 (pvbs 10 + Int32.toNatClampNeg w) 5 = 0) (d : yRt X Y (fun _ => Int32.toNatClampNeg w) (X.1 8 4).toInt 1 (some (pvI x))) (h2 : w'.toInt = w.toInt + 1) : yIm M Y (M.1 8 3) (M.1 8 2) ∧ w'.toInt ≤ (M.1 8 1).toInt ∧ (yWS M → ∀ S : List yCl, zHC M (yHp M) S → yNx M S (Int32.toNatClampNeg w') = if f.toInt = -5 ∨ x.toInt < l.toInt then (w.toInt, x.toInt) else yNx M S (Int32.toNatClampNeg w)) := by
  have L := h.1.1.1
  have r := pvok_r hok 8 1 (lo := 0) (hi := 7) rfl
  rw [L 8 (by decide), zi_le] at hl
  have t := ycl hw
  have t2 : Int32.toNatClampNeg w' = Int32.toNatClampNeg w + 1 := by
    have := ycl (x := w') (by omega)
    omega
  have pb : pvbs 10 = 60 := rfl
  rw [pb, L (60 + Int32.toNatClampNeg w) (yfp_p (by omega) (by omega))] at c
  refine ⟨yIm_t hX h.1 d.1, by omega, fun hW S hS => ?_⟩
  have e : x.toInt = yN1 M S (Int32.toNatClampNeg w) := yRt_m hok h.1 d rfl (fun i _ => ⟨rfl, by omega⟩) hW hS
  obtain ⟨e1, e2⟩ := h.2.2 hW S hS
  rw [t2, e, e1, e2]
  show (if M.1 (60 + Int32.toNatClampNeg w) 5 = 0 then _ else _ : Int × Int) = _
  rw [if_pos c, t]
theorem yNxI_y {M X Y : pvM} {f l w w' x : Int32} (hok : pvOk M) (hX : pvOk X) (h : yNxI M X f l w) (hw : 0 ≤ w.toInt) (hl : ¬ X.1 8 1 ≤ w) (c : X.1 (pvbs 10 + Int32.toNatClampNeg w) 5 = 0) (d : yRt X Y (fun _ => Int32.toNatClampNeg w) (X.1 8 4).toInt 1 (some (pvI x))) (h2 : w'.toInt = w.toInt + 1) (k : f.toInt = -5 ∨ x.toInt < l.toInt) : yNxI M Y w x w' := by
  obtain ⟨a, b, e⟩ := yNxI_c hok hX h hw hl c d h2
  exact ⟨a, b, fun hW S hS => by rw [e hW S hS, if_pos k]; exact ⟨rfl, rfl⟩⟩
theorem yNxI_n {M X Y : pvM} {f l w w' x : Int32} (hok : pvOk M) (hX : pvOk X) (h : yNxI M X f l w) (hw : 0 ≤ w.toInt) (hl : ¬ X.1 8 1 ≤ w) (c : X.1 (pvbs 10 + Int32.toNatClampNeg w) 5 = 0) (d : yRt X Y (fun _ => Int32.toNatClampNeg w) (X.1 8 4).toInt 1 (some (pvI x))) (h2 : w'.toInt = w.toInt + 1) (k : ¬ f.toInt = -5 ∧ ¬ x.toInt < l.toInt) : yNxI M Y f l w' := by
  obtain ⟨a, b, e⟩ := yNxI_c hok hX h hw hl c d h2
  exact ⟨a, b, fun hW S hS => by rw [e hW S hS, if_neg (fun z => z.elim k.1 k.2)]; exact h.2.2 hW S hS⟩
theorem yGnx_e {M X : pvM} {f l w : Int32} (h : yNxI M X f l w) (c : X.1 8 1 ≤ w) : yAn yGnx (some (pvI f)) M X := yAn_i h.1 (fun hW S hS hB => by
  rw [h.1.1.1 8 (by decide), zi_le] at c
  have e : M.1 8 1 = w := (zi_eq _ _).mpr (by have := h.2.1; omega)
  unfold yGnx yWn
  rw [e, (h.2.2 hW S hS).1])
/-! two, the class -/
def y2w (r : Option pvV) (Z B : pvM) : Prop := ∃ (A : pvM) (h n3 x1 x2 x : Int32), yGA 100 0 h (Z.1 8 4) (some (pvI x1)) Z A ∧ yGA 100 h n3 (A.1 8 4) (some (pvI x2)) A B ∧ r = some (pvI x) ∧ x.toInt = max x1.toInt x2.toInt ∧ h.toInt = (Z.1 100 0).toInt - (Z.1 100 0).toInt / 2 ∧ n3 = Z.1 100 0
def yTh (A : pvM) : Nat := yCr_n A - yCr_n A / 2
def yT1 (A : pvM) : yWs := ywg A (yCr_p A) 0 (yW0 A (A.1 8 4).toInt) (yTh A)
def yT2 (A : pvM) : yWs := ywg A (yCr_p A) (yTh A) ((A.1 8 4).toInt, A.1 8 6, A.1 8 7, (yT1 A).2.2.2) (yCr_n A - yTh A)
theorem y2w_i {M Z B : pvM} {r : Option pvV} {s co : Int32} (hok : pvOk M) (hZ : pvOk Z) (h : yIm M Z s co) (sh : ySh M Z (ysI M)) (d : y2w r Z B) : (∀ q : Nat, q ≠ 12 → B.1 q = Z.1 q) ∧ ySh M B (yT2 M).2.2.2 ∧ ∃ x : Int32, r = some (pvI x) ∧ x.toInt = max (yT1 M).1 (yT2 M).1 := by
  obtain ⟨A, hh, n3, x1, x2, x, g1, g2, er, ex, eh, e3⟩ := d
  subst e3
  have L := h.1.1
  have r7 := pvok_r hZ 100 0 (lo := 0) (hi := 7) rfl
  have t := ycl r7.1
  have th := ycl (x := hh) (by omega)
  have e100 : Z.1 100 = M.1 100 := L 100 (by decide)
  have e108 : Z.1 108 = M.1 108 := L 108 (by decide)
  have e8 : Z.1 8 = M.1 8 := L 8 (by decide)
  have cn : yCr_n M = Int32.toNatClampNeg (Z.1 100 0) := by unfold yCr_n; rw [e100]
  have hn : Int32.toNatClampNeg hh = yTh M := by
    unfold yTh
    rw [cn]
    omega
  have pp : ∀ i : Nat, ypa Z 108 i = yCr_p M i ∧ yCr_p M i < 7 := fun i => by
    have z := (ypa_7 hok i).1
    unfold yCr_p
    unfold ypa at z ⊢
    rw [e108]
    exact ⟨rfl, z⟩
  obtain ⟨f1, y1, ey1, a1, b1⟩ := yGA_g (p := yCr_p M) (n := yTh M) (s := yW0 M (M.1 8 4).toInt) hok L g1 ⟨by rw [e8]; rfl, rfl, rfl, sh⟩ (by rw [ycl0, ← hn]; omega) (fun i _ => pp _)
  rw [ycl0] at a1 b1
  have kA : yLk M A := yLk_t L (yLk_12 f1)
  have eA : A.1 100 = Z.1 100 := f1 100 (by decide)
  have eA108 : A.1 108 = Z.1 108 := f1 108 (by decide)
  obtain ⟨f2, y2, ey2, a2, b2⟩ := yGA_g (p := yCr_p M) (n := yCr_n M - yTh M) (s := ((M.1 8 4).toInt, M.1 8 6, M.1 8 7, (yT1 M).2.2.2)) hok kA g2 ⟨by rw [f1 8 (by decide), e8], rfl, rfl, b1⟩ (by rw [eA, hn, cn, ← hn]; omega) (fun i _ => by
    have z := pp (Int32.toNatClampNeg hh + i)
    unfold ypa at z ⊢
    rw [eA108]
    exact z)
  rw [hn] at a2 b2
  refine ⟨fun q hq => (f2 q hq).trans (f1 q hq), b2, x, er, ?_⟩
  rw [ex, zpI ey1, zpI ey2, a1, a2]
  rfl
def yGtw (w : Int32) (A : pvM) (S : List yCl) : Int := if w.toInt < 0 ∨ 1 < w.toInt then -1 else if w.toInt = 0 then yCs A S (A.1 8 3) (A.1 8 2).toInt (yT2 A).2.2.2 else max (yT1 A).1 (yT2 A).1
theorem yGtw_n {w x : Int32} {M : pvM} (h : w.toInt < 0 ∨ 1 < w.toInt) (e : x.toInt = -1) : yAn (yGtw w) (some (pvI x)) M M := yAn_n (fun S => by unfold yGtw; rw [if_pos h, e])
theorem yGtw_0 {w x : Int32} {M Z B : pvM} {r : Option pvV} (hok : pvOk M) (hZ : pvOk Z) (hB : pvOk B) (b : yBN M Z) (d : y2w r Z B) (c : ¬ (w.toInt < 0 ∨ 1 < w.toInt)) (c0 : w.toInt = 0) (k : yCo B x) : yAn (yGtw w) (some (pvI x)) M B := by
  obtain ⟨f, s, _⟩ := y2w_i hok hZ (yIm_B b) (ySh_B hok b) d
  exact yAn_i (yIm_2 hZ (yIm_B b) f) (fun hW S hS _ => by
    unfold yGtw
    rw [if_neg c, if_pos c0, yIm_C hok hB (yIm_2 hZ (yIm_B b) f) s k hW hS])
theorem yGtw_1 {w x : Int32} {M Z B : pvM} (hok : pvOk M) (hZ : pvOk Z) (b : yBN M Z) (d : y2w (some (pvI x)) Z B) (c : ¬ (w.toInt < 0 ∨ 1 < w.toInt)) (c0 : ¬ w.toInt = 0) : yAn (yGtw w) (some (pvI x)) M B := by
  obtain ⟨f, s, y, ey, e⟩ := y2w_i hok hZ (yIm_B b) (ySh_B hok b) d
  exact yAn_i (yIm_2 hZ (yIm_B b) f) (fun hW S hS _ => by
    unfold yGtw
    rw [if_neg c, if_neg c0, zpI ey, e])
/-! worth -/
def yup (f : Nat → Int) (w : Nat) (v : Int) : Nat → Int := fun i => if i = w then v else f i
def yGwo (w : Int32) (A : pvM) (S : List yCl) : Int := if 0 ≤ w.toInt ∧ w.toInt < (A.1 8 1).toInt then (Int32.ofInt (yCs A S (A.1 8 3) (A.1 8 2).toInt (ysI A)) - Int32.ofInt (yCs A S (A.1 8 3) (A.1 8 2).toInt (yup (ysI A) (Int32.toNatClampNeg w) 0))).toInt else -1
theorem yGwo_n {w x : Int32} {M : pvM} (h : ¬ zvl w (M.1 8 1)) (e : x.toInt = -1) : yAn (yGwo w) (some (pvI x)) M M := yAn_n (fun S => by unfold yGwo; rw [if_neg (show ¬ (0 ≤ w.toInt ∧ w.toInt < (M.1 8 1).toInt) from h), e])
theorem yOf {a : Int32} {x : Int} (h : a.toInt = x) : a = Int32.ofInt x := by rw [← h, Int32.ofInt_toInt]
theorem yGwo_y {w x y v : Int32} {M Z B : pvM} (hok : pvOk M) (hZ : pvOk Z) (hB : pvOk B) (b : yBN M Z) (h : zvl w (M.1 8 1)) (d : yCo Z x) (e : B = pvu Z 12 (Int32.toNatClampNeg w) v) (hv : v.toInt = 0) (k : yCo B y) : yAn (yGwo w) (some (pvI (x - y))) M B := by
  have f : ∀ q : Nat, q ≠ 12 → B.1 q = Z.1 q := fun q hq => funext fun c => pvu_n e q c (Or.inl hq)
  have s := ySh_B hok b
  have s2 : ySh M B (yup (ysI M) (Int32.toNatClampNeg w) 0) := fun u hu => by
    unfold yup
    by_cases c : u = Int32.toNatClampNeg w
    · rw [if_pos c, c, pvu_s e, hv]
    · rw [if_neg c, pvu_n e 12 u (Or.inr c)]
      exact s u hu
  have hI := yIm_2 hZ (yIm_B b) f
  exact yAn_i hI (fun hW S hS _ => by
    unfold yGwo
    rw [if_pos (show 0 ≤ w.toInt ∧ w.toInt < (M.1 8 1).toInt from h), ← yOf (yIm_C hok hZ (yIm_B b) s d hW hS), ← yOf (yIm_C hok hB hI s2 k hW hS)])
/-! the worst of several -/
def yMx (f : Nat → Int) : Nat → Int × Int
  | 0 => (0, -1)
  | n + 1 => if (yMx f n).2 < f n then ((n : Int), f n) else yMx f n
def yMxI (f : Nat → Int) (w m i : Int32) : Prop := w.toInt = (yMx f (Int32.toNatClampNeg i)).1 ∧ m.toInt = (yMx f (Int32.toNatClampNeg i)).2
theorem yMxI_0 {f : Nat → Int} {w m i : Int32} (hw : w.toInt = 0) (hm : m.toInt = -1) (hi : i.toInt = 0) : yMxI f w m i := by
  have e : Int32.toNatClampNeg i = 0 := by
    have := ycl (x := i) (by omega)
    omega
  unfold yMxI
  rw [e]
  exact ⟨hw, hm⟩
theorem yMxI_c {f : Nat → Int} {w m i i' x : Int32} (h : yMxI f w m i) (h0 : 0 ≤ i.toInt) (h2 : i'.toInt = i.toInt + 1) (e : x.toInt = f (Int32.toNatClampNeg i)) : yMx f (Int32.toNatClampNeg i') = if m.toInt < x.toInt then (i.toInt, x.toInt) else yMx f (Int32.toNatClampNeg i) := by
  have t := ycl h0
  have t2 : Int32.toNatClampNeg i' = Int32.toNatClampNeg i + 1 := by
    have := ycl (x := i') (by omega)
    omega
  rw [t2, h.2, e]
  show (if (yMx f (Int32.toNatClampNeg i)).2 < f (Int32.toNatClampNeg i) then (((Int32.toNatClampNeg i : Nat) : Int), f (Int32.toNatClampNeg i)) else _) = _
  rw [t]
theorem yMxI_y {f : Nat → Int} {w m i i' x : Int32} (h : yMxI f w m i) (h0 : 0 ≤ i.toInt) (h2 : i'.toInt = i.toInt + 1) (e : x.toInt = f (Int32.toNatClampNeg i)) (c : ¬ x ≤ m) : yMxI f i x i' := by
  unfold yMxI
  rw [yMxI_c h h0 h2 e, if_pos (by rw [zi_le] at c; omega)]
  exact ⟨rfl, rfl⟩
theorem yMxI_n {f : Nat → Int} {w m i i' x : Int32} (h : yMxI f w m i) (h0 : 0 ≤ i.toInt) (h2 : i'.toInt = i.toInt + 1) (e : x.toInt = f (Int32.toNatClampNeg i)) (c : x ≤ m) : yMxI f w m i' := by
  unfold yMxI
  rw [yMxI_c h h0 h2 e, if_neg (by rw [zi_le] at c; omega)]
  exact h
/-! sides -/
def ysF (A : pvM) (S : List yCl) (k : Nat) : Int := yCs A S (nI k) (A.1 8 2).toInt (ysI A)
def yGsd (w : Int32) (A : pvM) (S : List yCl) : Int := if w.toInt < 0 ∨ 1 < w.toInt then -1 else if w.toInt = 0 then (yMx (ysF A S) 4).1 else (yMx (ysF A S) 4).2
def yIs (M X : pvM) (sh : Nat → Int) : Prop := (∃ s : Int32, yIm M X s (M.1 8 2)) ∧ ySh M X sh
def ySdI (M X : pvM) (w m i : Int32) : Prop := yIs M X (ysI M) ∧ (yWS M → ∀ S : List yCl, zHC M (yHp M) S → yMxI (ysF M S) w m i)
theorem nI_c {i : Int32} (h : 0 ≤ i.toInt) : nI (Int32.toNatClampNeg i) = i := by
  have b := zbnd i
  have t := ycl h
  exact (zi_eq _ _).mpr (by rw [nI_toInt (by omega)]; omega)
theorem ySdI_0 {M X : pvM} {w m i : Int32} (hok : pvOk M) (h : yBN M X) (hw : w.toInt = 0) (hm : m.toInt = -1) (hi : i.toInt = 0) : ySdI M X w m i := ⟨⟨⟨_, yIm_B h⟩, ySh_B hok h⟩, fun _ _ _ => yMxI_0 hw hm hi⟩
theorem yIs_T {M X Y : pvM} {sh : Nat → Int} {i : Int32} (h : yIs M X sh) (t : yTT i X Y) (hi : 0 ≤ i.toInt ∧ i.toInt < 4) : yIm M Y i (M.1 8 2) ∧ yIs M Y sh := by
  obtain ⟨⟨s, a⟩, b⟩ := h
  exact ⟨yIm_T a t hi, ⟨_, yIm_T a t hi⟩, ySh_T b t hi⟩
theorem ySdI_c {M X Y : pvM} {w m i x : Int32} (hok : pvOk M) (hY : pvOk Y) (h : ySdI M X w m i) (t : yTT i X Y) (hi : 0 ≤ i.toInt ∧ i.toInt < 4) (k : yCo Y x) (hW : yWS M) {S : List yCl} (hS : zHC M (yHp M) S) : x.toInt = ysF M S (Int32.toNatClampNeg i) := by
  obtain ⟨a, b⟩ := yIs_T h.1 t hi
  rw [yIm_C hok hY a b.2 k hW hS]
  unfold ysF
  rw [nI_c hi.1]
theorem ySdI_y {M X Y : pvM} {w m i i' x : Int32} (hok : pvOk M) (hY : pvOk Y) (h : ySdI M X w m i) (t : yTT i X Y) (hi : 0 ≤ i.toInt ∧ i.toInt < 4) (k : yCo Y x) (h2 : i'.toInt = i.toInt + 1) (c : ¬ x ≤ m) : ySdI M Y i x i' := ⟨(yIs_T h.1 t hi).2, fun hW S hS => yMxI_y (h.2 hW S hS) hi.1 h2 (ySdI_c hok hY h t hi k hW hS) c⟩
theorem ySdI_n {M X Y : pvM} {w m i i' x : Int32} (hok : pvOk M) (hY : pvOk Y) (h : ySdI M X w m i) (t : yTT i X Y) (hi : 0 ≤ i.toInt ∧ i.toInt < 4) (k : yCo Y x) (h2 : i'.toInt = i.toInt + 1) (c : x ≤ m) : ySdI M Y w m i' := ⟨(yIs_T h.1 t hi).2, fun hW S hS => yMxI_n (h.2 hW S hS) hi.1 h2 (ySdI_c hok hY h t hi k hW hS) c⟩
theorem yGsd_n {w x : Int32} {M : pvM} (h : w.toInt < 0 ∨ 1 < w.toInt) (e : x.toInt = -1) : yAn (yGsd w) (some (pvI x)) M M := yAn_n (fun S => by unfold yGsd; rw [if_pos h, e])
theorem yGsd_e {M X : pvM} {q w m i : Int32} (h : ySdI M X w m i) (hi : i.toInt = 4) (c : ¬ (q.toInt < 0 ∨ 1 < q.toInt)) : (q.toInt = 0 → yAn (yGsd q) (some (pvI w)) M X) ∧ (¬ q.toInt = 0 → yAn (yGsd q) (some (pvI m)) M X) := by
  obtain ⟨⟨s, a⟩, _⟩ := h.1
  have e : Int32.toNatClampNeg i = 4 := by
    have := ycl (x := i) (by omega)
    omega
  refine ⟨fun z => yAn_i a (fun hW S hS _ => ?_), fun z => yAn_i a (fun hW S hS _ => ?_)⟩
  · have d := h.2 hW S hS
    unfold yMxI at d
    rw [e] at d
    unfold yGsd
    rw [if_neg c, if_pos z, d.1]
  · have d := h.2 hW S hS
    unfold yMxI at d
    rw [e] at d
    unfold yGsd
    rw [if_neg c, if_neg z, d.2]
/-! begin -/
def ybF (A : pvM) (S : List yCl) (k : Nat) : Int := yCs A S (A.1 8 3) (k : Int) (yrW A).2.2.2
def yGbg (w : Int32) (A : pvM) (S : List yCl) : Int := if w.toInt < 0 ∨ 1 < w.toInt then -1 else if w.toInt = 0 then (yMx (ybF A S) 100).1 else (yMx (ybF A S) 100).2
def yIc (M X : pvM) (sh : Nat → Int) : Prop := (∃ c : Int32, yIm M X (M.1 8 3) c) ∧ ySh M X sh
def yBgI (M X : pvM) (w m i : Int32) : Prop := yIc M X (yrW M).2.2.2 ∧ (yWS M → ∀ S : List yCl, zHC M (yHp M) S → yMxI (ybF M S) w m i)
theorem yBgI_0 {M X : pvM} {e : Option pvV} {w m i : Int32} (h : yRn9 M X e) (hw : w.toInt = 0) (hm : m.toInt = -1) (hi : i.toInt = 0) : yBgI M X w m i := ⟨⟨⟨_, h.1⟩, h.2.1⟩, fun _ _ _ => yMxI_0 hw hm hi⟩
theorem yIc_c {M X Y : pvM} {sh : Nat → Int} {v : Int32} (hX : pvOk X) (h : yIc M X sh) (e : Y = pvu X 5 2 v) : yIm M Y (M.1 8 3) v ∧ yIc M Y sh := by
  obtain ⟨⟨c, a⟩, b⟩ := h
  exact ⟨yIm_c hX a e, ⟨_, yIm_c hX a e⟩, ySh_c b e (by decide)⟩
theorem yBgI_c {M X Y : pvM} {w m i x : Int32} (hok : pvOk M) (hX : pvOk X) (hY : pvOk Y) (h : yBgI M X w m i) (e : Y = pvu X 5 2 i) (hi : 0 ≤ i.toInt) (k : yCo Y x) (hW : yWS M) {S : List yCl} (hS : zHC M (yHp M) S) : x.toInt = ybF M S (Int32.toNatClampNeg i) := by
  obtain ⟨a, b⟩ := yIc_c hX h.1 e
  rw [yIm_C hok hY a b.2 k hW hS]
  unfold ybF
  rw [ycl hi]
theorem yBgI_y {M X Y : pvM} {w m i i' x : Int32} (hok : pvOk M) (hX : pvOk X) (hY : pvOk Y) (h : yBgI M X w m i) (e : Y = pvu X 5 2 i) (hi : 0 ≤ i.toInt) (k : yCo Y x) (h2 : i'.toInt = i.toInt + 1) (c : ¬ x ≤ m) : yBgI M Y i x i' := ⟨(yIc_c hX h.1 e).2, fun hW S hS => yMxI_y (h.2 hW S hS) hi h2 (yBgI_c hok hX hY h e hi k hW hS) c⟩
theorem yBgI_n {M X Y : pvM} {w m i i' x : Int32} (hok : pvOk M) (hX : pvOk X) (hY : pvOk Y) (h : yBgI M X w m i) (e : Y = pvu X 5 2 i) (hi : 0 ≤ i.toInt) (k : yCo Y x) (h2 : i'.toInt = i.toInt + 1) (c : x ≤ m) : yBgI M Y w m i' := ⟨(yIc_c hX h.1 e).2, fun hW S hS => yMxI_n (h.2 hW S hS) hi h2 (yBgI_c hok hX hY h e hi k hW hS) c⟩
theorem yGbg_n {w x : Int32} {M : pvM} (h : w.toInt < 0 ∨ 1 < w.toInt) (e : x.toInt = -1) : yAn (yGbg w) (some (pvI x)) M M := yAn_n (fun S => by unfold yGbg; rw [if_pos h, e])
theorem yGbg_e {M X : pvM} {q w m i : Int32} (h : yBgI M X w m i) (hi : i.toInt = 100) (c : ¬ (q.toInt < 0 ∨ 1 < q.toInt)) : (q.toInt = 0 → yAn (yGbg q) (some (pvI w)) M X) ∧ (¬ q.toInt = 0 → yAn (yGbg q) (some (pvI m)) M X) := by
  obtain ⟨⟨s, a⟩, _⟩ := h.1
  have e : Int32.toNatClampNeg i = 100 := by
    have := ycl (x := i) (by omega)
    omega
  refine ⟨fun z => yAn_i a (fun hW S hS _ => ?_), fun z => yAn_i a (fun hW S hS _ => ?_)⟩
  · have d := h.2 hW S hS
    unfold yMxI at d
    rw [e] at d
    unfold yGbg
    rw [if_neg c, if_pos z, d.1]
  · have d := h.2 hW S hS
    unfold yMxI at d
    rw [e] at d
    unfold yGbg
    rw [if_neg c, if_neg z, d.2]
