/-! best, the reference -/
theorem yL0_b {L : List (Nat × Nat × Nat)} {M X : pvM} (hf : pvFr (pvfp L) M X) (hL : L = [(0, 124, 33), (0, 124, 36), (0, 141, 0), (0, 142, 0), (0, 143, 0), (0, 144, 0), (0, 146, 0)]) : yL0 M X := fun a b z => hf a b (by
  subst hL
  unfold yf0 at z
  unfold pvfp pvfa
  simp only [List.any_cons, List.any_nil, Bool.or_eq_false_iff, Bool.and_eq_false_iff, beq_eq_false_iff_ne] at z ⊢
  have n : ∀ x y : Nat, Nat.beq x y = false ↔ x ≠ y := fun x y => ⟨fun h e => by rw [e, Nat.beq_refl] at h; exact Bool.noConfusion h, fun h => by
    cases c : Nat.beq x y with
    | false => rfl
    | true => exact absurd (Nat.eq_of_beq_eq_true c) h⟩
  simp only [show Nat.beq 0 0 = true from rfl, cond_true, n, show (true = false) = False from propext ⟨fun z => Bool.noConfusion z, False.elim⟩, false_and, or_false, and_true]
  omega)
theorem yL0_144 {M X : pvM} (h : ∀ a : Nat, a ≠ 144 → X.1 a = M.1 a) : yL0 M X := fun a b z => congrFun (h a (yf0_n z).2.2.2.1) b
theorem yJr_4 {B X Y : pvM} {s c : Int32} (h : yJr B X s c) (f : ∀ q : Nat, q ≠ 144 → Y.1 q = X.1 q) : yJr B Y s c := ⟨yL0_t h.1 (yL0_144 f), by rw [f 124 (by decide)]; exact h.2.1, by rw [f 124 (by decide)]; exact h.2.2.1, yLaid_k (yL0_144 f) (by rw [f 124 (by decide)]) (f 142 (by decide)) h.2.2.2⟩
theorem yJr_6 {B X Y : pvM} {s c v : Int32} {k : Nat} (h : yJr B X s c) (e : Y = pvu X 146 k v) : yJr B Y s c := by
  have kY : yL0 X Y := yL0_u e rfl
  exact ⟨yL0_t h.1 kY, (pvu_n e 124 4 (by omega)).trans h.2.1, (pvu_n e 124 3 (by omega)).trans h.2.2.1, yLaid_k kY (pvu_n e 124 4 (by omega)) (funext fun b => pvu_n e 142 b (by omega)) h.2.2.2⟩
/-- how many are OPEN -/
def yBc (x : Int32) (X : pvM) (w : Int32) : Prop := Int32.toNatClampNeg (X.1 124 35) = (List.range (Int32.toNatClampNeg w)).countP fun i => (Int32.toNatClampNeg x).testBit i
theorem yBc_0 {x w : Int32} {X : pvM} (h : (X.1 124 35).toInt = 0) (hw : w = 0) : yBc x X w := by
  have t := ycl (x := X.1 124 35) (by omega)
  subst hw
  unfold yBc
  rw [ycl0, List.range_zero, List.countP_nil]
  omega
theorem yBc_s {x w w' d : Int32} {X Y : pvM} (hX : pvOk X) (h : yBc x X w) (hx : 0 ≤ x.toInt ∧ x.toInt ≤ 127) (hw : 0 ≤ w.toInt ∧ w.toInt ≤ 6) (e : Y = pvu X 124 35 (X.1 124 35 + d)) (c : (((x >>> (w &&& 31)) &&& 1) = 1 ∧ d = 1) ∨ (¬ ((x >>> (w &&& 31)) &&& 1) = 1 ∧ d = 0)) (e2 : w' = w + 1) : yBc x Y w' := by
  have u0 : (0 : Int32).toInt = 0 := by decide
  have u1 : (1 : Int32).toInt = 1 := by decide
  have f2 : w'.toInt = w.toInt + 1 := by rw [e2, zadd _ _ (by omega) (by omega), u1]
  have r := pvok_r hX 124 35 (lo := 0) (hi := 7) rfl
  have t := ycl r.1
  have tw := ycl hw.1
  have tw' := ycl (x := w') (by omega)
  have ew : Int32.toNatClampNeg w' = Int32.toNatClampNeg w + 1 := by omega
  unfold yBc at h ⊢
  rw [ew, List.range_succ, List.countP_append, pvu_s e, ← h, List.countP_singleton]
  rcases c with ⟨c, hd⟩ | ⟨c, hd⟩
  · rw [(yKbt hx hw).mp c, if_pos rfl]
    subst hd
    have z := zadd (X.1 124 35) 1 (by omega) (by omega)
    have tz := ycl (x := X.1 124 35 + 1) (by omega)
    omega
  · rw [yKbt hx hw] at c
    rw [if_neg c]
    subst hd
    have z := zadd (X.1 124 35) 0 (by omega) (by omega)
    have tz := ycl (x := X.1 124 35 + 0) (by omega)
    omega
def yBeS (A : pvM) : Nat := yos A (yWn A)
def yBeF (A : pvM) (S : List yCl) : Nat → Int := yBf A S (A.1 8 3) (A.1 8 2).toInt (yBeS A)
theorem ybx {A B : pvM} {S : List yCl} {x : Int32} (a : yCall A B S) (hx : x = yOc B (Int32.toNatClampNeg (B.1 124 0))) : Int32.toNatClampNeg x = yBeS A := by
  have hA := a.1.1.1.1
  rw [yCb_W a.1.1, ← yOb_c (A := A) (n := yWn A) (fun w hw => a.1.2 w hw), yOb_s A (yWn_7 hA)] at hx
  have b := yos_128 hA
  have e := nI_toInt (n := yos A (yWn A)) (by omega)
  rw [hx]
  have t := ycl (x := nI (yos A (yWn A))) (by omega)
  unfold yBeS
  omega
theorem ybw {A B : pvM} {S : List yCl} {x w : Int32} {X : pvM} (a : yCall A B S) (hx : x = yOc B (Int32.toNatClampNeg (B.1 124 0))) (h : yBc x X w) (hw : (B.1 124 0).toInt ≤ w.toInt) : Int32.toNatClampNeg (X.1 124 35) = ypc (yBeS A) := by
  have hA := a.1.1.1.1
  have e8 := yCb_W a.1.1
  have hB := a.1.1.2.1
  have wi := yWn_i hA
  have t0 : (yWn A : Int) ≤ Int32.toNatClampNeg w := by
    rw [← e8]
    show (((B.1 124 0).toInt.toNat : Nat) : Int) ≤ ((w.toInt.toNat : Nat) : Int)
    omega
  unfold yBc at h
  rw [h, ybx a hx]
  unfold yBeS
  rw [ypc_l hA, List.countP_eq_length_filter, yol_f, show min (Int32.toNatClampNeg w) (yWn A) = yWn A by omega]
/-- the orders before this number are tried -/
def yBq (B X : pvM) (x l n : Int32) : Prop := yJr B X (B.1 124 4) (B.1 124 3) ∧ (X.1 124 35).toInt ≤ 5 ∧ (x = yOc B (Int32.toNatClampNeg (B.1 124 0)) ∧ (0 < n.toInt → 0 ≤ l.toInt) ∧ (n.toInt = 0 → l.toInt = -1)) ∧ ∀ (A : pvM) (S : List yCl), yCall A B S → Int32.toNatClampNeg (X.1 124 35) = ypc (yBeS A) ∧ Int32.toNatClampNeg n ≤ yft (ypc (yBeS A)) ∧ (0 < Int32.toNatClampNeg n → l.toInt = yBeF A S (yMn (yBeF A S) (Int32.toNatClampNeg n - 1)) ∧ ∀ i : Nat, i < ypc (yBeS A) → ypa X 146 i = yoT (yBeS A) (yMn (yBeF A S) (Int32.toNatClampNeg n - 1)) i)
theorem yBq_0 {B Xw Y : pvM} {x w l n : Int32} (kB : yL0 B Xw) (e4 : Xw.1 124 4 = B.1 124 4) (e3 : Xw.1 124 3 = B.1 124 3) (lr : yLR Xw Y) (e35 : Y.1 124 35 = Xw.1 124 35) (bc : yBc x Xw w) (c : Xw.1 124 0 ≤ w) (c5 : Xw.1 124 35 ≤ 5) (hx : x = yOc B (Int32.toNatClampNeg (B.1 124 0))) (hl : l.toInt = -1) (hn : n = 0) : yBq B Y x l n := by
  have j := yJr_R lr
  rw [e4, e3] at j
  have u5 : (5 : Int32).toInt = 5 := by decide
  have u0 : (0 : Int32).toInt = 0 := by decide
  subst hn
  rw [kB 124 0 (by decide), zi_le] at c
  rw [zi_le, u5] at c5
  refine ⟨⟨yL0_t kB j.1, j.2.1, j.2.2.1, j.2.2.2⟩, by rw [e35]; exact c5, ⟨hx, fun z => by omega, fun _ => hl⟩, fun A S a => ⟨?_, ?_, fun z => ?_⟩⟩
  · rw [e35]
    exact ybw a hx bc c
  · rw [ycl0]
    exact Nat.zero_le _
  · rw [ycl0] at z
    exact absurd z (Nat.lt_irrefl 0)
theorem yBr {B X Y : pvM} {x l n r : Int32} (hn : 0 ≤ n.toInt) (h : yBq B X x l n) (k : yKo x n (some (pvI r)) X Y) {A : pvM} {S : List yCl} (a : yCall A B S) : (r = 0 → Int32.toNatClampNeg n = yft (ypc (yBeS A))) ∧ (¬ r = 0 → Int32.toNatClampNeg n < yft (ypc (yBeS A)) ∧ ∀ i : Nat, i < ypc (yBeS A) → ypa Y 144 i = yoT (yBeS A) (Int32.toNatClampNeg n) i) := by
  obtain ⟨_, _, ⟨hx, _⟩, g⟩ := h
  obtain ⟨g1, g2, _⟩ := g A S a
  have k := k.2
  rw [ybx a hx] at k
  have k := k g1
  by_cases c : Int32.toNatClampNeg n < yft (ypc (yBeS A))
  · rw [if_pos c] at k
    refine ⟨fun z => ?_, fun _ => ⟨c, k.2⟩⟩
    have q := zpI k.1
    rw [z] at q
    exact absurd q (by decide)
  · rw [if_neg c] at k
    exact ⟨fun _ => by omega, fun z => absurd (zpI k) z⟩
theorem yBd {B X Y Z : pvM} {x l n r v n1 : Int32} (hX : pvOk X) (hn : 0 ≤ n.toInt) (h : yBq B X x l n) (k : yKo x n (some (pvI r)) X Y) (c : ¬ r = 0) (d : yQ0 n1 (some (pvI v)) Y Z) (h1 : n1 = 0) : yJr B Z (B.1 124 4) (B.1 124 3) ∧ Z.1 124 35 = X.1 124 35 ∧ (∀ i : Nat, Z.1 144 i = Y.1 144 i) ∧ (∀ i : Nat, Z.1 146 i = X.1 146 i) ∧ ∀ (A : pvM) (S : List yCl), yCall A B S → v.toInt = yBeF A S (Int32.toNatClampNeg n) := by
  have j := yJr_4 h.1 k.1
  have f := d.1
  refine ⟨yJr_3 j f, by rw [f 124 (by decide), k.1 124 (by decide)], fun i => by rw [f 144 (by decide)], fun i => by rw [f 146 (by decide), k.1 146 (by decide)], fun A S a => ?_⟩
  have b := (yBr hn h k a).2 c
  have hA := a.1.1.1.1
  obtain ⟨g1, _, _⟩ := h.2.2.2 A S a
  have r7 := pvok_r hX 124 35 (lo := 0) (hi := 7) rfl
  have t := ycl r7.1
  have h5 : ypc (yBeS A) ≤ 5 := by have := h.2.1; omega
  have y := (yck (yos_128 hA) h5 b.1).2.2
  have e := yQ0_m (p := yoT (yBeS A) (Int32.toNatClampNeg n)) (n := ypc (yBeS A)) a.1 j d (by rw [k.1 124 (by decide)]; exact g1) (fun i hi => ⟨b.2 i hi, by
    have z := (y i hi).1
    unfold yBeS at z ⊢
    rw [yos_b, Bool.and_eq_true] at z
    exact of_decide_eq_true z.1⟩)
  have u0 : (0 : Int32).toInt = 0 := by decide
  rw [h1, u0, Int.add_zero, ← a.2.2.2.1, ← a.2.2.2.2] at e
  exact e
/-- this order is the best so far, as many of its windows are kept -/
def yBz (B X : pvM) (x l n i : Int32) : Prop := yJr B X (B.1 124 4) (B.1 124 3) ∧ (X.1 124 35).toInt ≤ 5 ∧ (x = yOc B (Int32.toNatClampNeg (B.1 124 0)) ∧ 0 ≤ l.toInt ∧ 0 ≤ n.toInt) ∧ (∀ (A : pvM) (S : List yCl), yCall A B S → Int32.toNatClampNeg (X.1 124 35) = ypc (yBeS A) ∧ Int32.toNatClampNeg n < yft (ypc (yBeS A)) ∧ (∀ i : Nat, i < ypc (yBeS A) → ypa X 144 i = yoT (yBeS A) (Int32.toNatClampNeg n) i) ∧ l.toInt = yBeF A S (Int32.toNatClampNeg n) ∧ yMn (yBeF A S) (Int32.toNatClampNeg n) = Int32.toNatClampNeg n) ∧ ∀ j : Nat, j < Int32.toNatClampNeg i → X.1 146 j = X.1 144 j
theorem yBz_0 {B X Y Z : pvM} {x l n r v n1 i : Int32} (hX : pvOk X) (hn : 0 ≤ n.toInt) (h : yBq B X x l n) (k : yKo x n (some (pvI r)) X Y) (c : ¬ r = 0) (d : yQ0 n1 (some (pvI v)) Y Z) (h1 : n1 = 0) (hv : 0 ≤ v.toInt) (c2 : l.toInt < 0 ∨ v.toInt < l.toInt) (hi : i = 0) : yBz B Z x v n i := by
  obtain ⟨j, e35, e144, e146, g⟩ := yBd hX hn h k c d h1
  subst hi
  refine ⟨j, by rw [e35]; exact h.2.1, ⟨h.2.2.1.1, hv, hn⟩, fun A S a => ?_, fun j hj => by rw [ycl0] at hj; exact absurd hj (Nat.not_lt_zero _)⟩
  obtain ⟨g1, g2, g3⟩ := h.2.2.2 A S a
  have b := (yBr hn h k a).2 c
  refine ⟨by rw [e35]; exact g1, b.1, fun i hi => ?_, g A S a, ?_⟩
  · unfold ypa
    rw [e144]
    exact b.2 i hi
  · rcases Nat.eq_zero_or_pos (Int32.toNatClampNeg n) with z | z
    · rw [z]
      rfl
    · have tn := ycl hn
      have l0 := h.2.2.1.2.1 (by omega)
      have q := (g3 z).1
      have e := g A S a
      rw [yMn_p z, if_pos (by omega)]
theorem yBz_s {B X Y : pvM} {x l n i i' : Int32} (h : yBz B X x l n i) (hi : 0 ≤ i.toInt ∧ i.toInt ≤ 6) (e : Y = pvu X 146 (Int32.toNatClampNeg i) (X.1 144 (Int32.toNatClampNeg i))) (e2 : i' = i + 1) : yBz B Y x l n i' := by
  obtain ⟨j, h5, hl, g, hc⟩ := h
  have u1 : (1 : Int32).toInt = 1 := by decide
  have f2 : i'.toInt = i.toInt + 1 := by rw [e2, zadd _ _ (by omega) (by omega), u1]
  have ti := ycl hi.1
  have ti' := ycl (x := i') (by omega)
  have e35 : Y.1 124 35 = X.1 124 35 := pvu_n e 124 35 (Or.inl (by decide))
  have e144 : ∀ b : Nat, Y.1 144 b = X.1 144 b := fun b => pvu_n e 144 b (Or.inl (by decide))
  refine ⟨yJr_6 j e, by rw [e35]; exact h5, hl, fun A S a => ?_, fun q hq => ?_⟩
  · obtain ⟨g1, g2, g3, g4⟩ := g A S a
    exact ⟨by rw [e35]; exact g1, g2, fun q hq => by unfold ypa; rw [e144]; exact g3 q hq, g4⟩
  · by_cases d : q = Int32.toNatClampNeg i
    · rw [d, e144, pvu_s e]
    · rw [e144, pvu_n e 146 q (Or.inr d)]
      exact hc q (by omega)
theorem yBq_y {B X : pvM} {x l n n' i : Int32} (h : yBz B X x l n i) (hi : 7 ≤ i) (hn : n.toInt ≤ 5040) (e2 : n' = n + 1) : yBq B X x l n' := by
  obtain ⟨j, h5, ⟨hx, hl, h0⟩, g, hc⟩ := h
  have u1 : (1 : Int32).toInt = 1 := by decide
  have u7 : (7 : Int32).toInt = 7 := by decide
  have f2 : n'.toInt = n.toInt + 1 := by rw [e2, zadd _ _ (by omega) (by omega), u1]
  rw [zi_le, u7] at hi
  have ti := ycl (x := i) (by omega)
  have tn := ycl h0
  have tn' := ycl (x := n') (by omega)
  have en : Int32.toNatClampNeg n' = Int32.toNatClampNeg n + 1 := by omega
  refine ⟨j, h5, ⟨hx, fun _ => hl, fun z => by omega⟩, fun A S a => ?_⟩
  obtain ⟨g1, g2, g3, g4, g5⟩ := g A S a
  rw [en]
  refine ⟨g1, g2, fun _ => ?_⟩
  rw [Nat.add_sub_cancel, g5]
  have p7 := ypc_7 (yBeS A)
  exact ⟨g4, fun q hq => by
    rw [← g3 q hq]
    unfold ypa
    rw [hc q (by omega)]⟩
theorem yBq_n {B X Y Z : pvM} {x l n n' r v n1 : Int32} (hX : pvOk X) (hn : 0 ≤ n.toInt ∧ n.toInt ≤ 5040) (h : yBq B X x l n) (k : yKo x n (some (pvI r)) X Y) (c : ¬ r = 0) (d : yQ0 n1 (some (pvI v)) Y Z) (h1 : n1 = 0) (c1 : ¬ l.toInt < 0) (c2 : ¬ v.toInt < l.toInt) (e2 : n' = n + 1) : yBq B Z x l n' := by
  obtain ⟨j, e35, e144, e146, g⟩ := yBd hX hn.1 h k c d h1
  have u1 : (1 : Int32).toInt = 1 := by decide
  have f2 : n'.toInt = n.toInt + 1 := by rw [e2, zadd _ _ (by omega) (by omega), u1]
  have tn := ycl hn.1
  have tn' := ycl (x := n') (by omega)
  have en : Int32.toNatClampNeg n' = Int32.toNatClampNeg n + 1 := by omega
  have n0 : ¬ n.toInt = 0 := fun z => by
    have := h.2.2.1.2.2 z
    omega
  refine ⟨j, by rw [e35]; exact h.2.1, ⟨h.2.2.1.1, fun _ => by omega, fun z => by omega⟩, fun A S a => ?_⟩
  obtain ⟨g1, g2, g3⟩ := h.2.2.2 A S a
  have b := (yBr hn.1 h k a).2 c
  rw [en]
  refine ⟨by rw [e35]; exact g1, b.1, fun _ => ?_⟩
  obtain ⟨q1, q2⟩ := g3 (by omega)
  have e := g A S a
  rw [Nat.add_sub_cancel, yMn_p (by omega), if_neg (by omega)]
  exact ⟨q1, fun i hi => by
    rw [← q2 i hi]
    unfold ypa
    rw [e146]⟩
theorem yGbe0_1 {B : pvM} {k x : Int32} (h : k.toInt < -1 ∨ 4 < k.toInt) (e : x.toInt = -1) : yA0 (yGbe k) (some (pvI x)) B := yA0_n (fun A S => by unfold yGbe; rw [if_pos h, e])
theorem yGbe0_9 {B Xw : pvM} {k x y w : Int32} (hX : pvOk Xw) (kB : yL0 B Xw) (h : -1 ≤ k.toInt ∧ k.toInt ≤ 4) (bc : yBc y Xw w) (c : Xw.1 124 0 ≤ w) (c5 : ¬ Xw.1 124 35 ≤ 5) (hx : y = yOc B (Int32.toNatClampNeg (B.1 124 0))) (e : x.toInt = -9) : yA0 (yGbe k) (some (pvI x)) B := fun A S a => ⟨x, rfl, by
  have u5 : (5 : Int32).toInt = 5 := by decide
  rw [kB 124 0 (by decide), zi_le] at c
  rw [zi_le, u5] at c5
  have r := pvok_r hX 124 35 (lo := 0) (hi := 7) rfl
  have t := ycl r.1
  have q := ybw a hx bc c
  unfold yBeS at q
  unfold yGbe
  rw [if_neg (by omega), if_pos (by omega), e]⟩
theorem yGbe0_i {B X Y : pvM} {x l n r k : Int32} (hX : pvOk X) (hn : 0 ≤ n.toInt) (hk : -1 ≤ k.toInt ∧ k.toInt ≤ 4) (h : yBq B X x l n) (ko : yKo x n (some (pvI r)) X Y) (c : r = 0) {A : pvM} {S : List yCl} (a : yCall A B S) : Int32.toNatClampNeg (Y.1 124 35) = ypc (yBeS A) ∧ yGbe k A S = (if (ypc (yBeS A) : Int) ≤ k.toInt then -5 else if k.toInt = -1 then l.toInt else ((ypa Y 146 k.toInt.toNat : Nat) : Int)) := by
  obtain ⟨g1, g2, g3⟩ := h.2.2.2 A S a
  have b := (yBr hn h ko a).1 c
  have r7 := pvok_r hX 124 35 (lo := 0) (hi := 7) rfl
  have t := ycl r7.1
  have h5 : ypc (yBeS A) ≤ 5 := by have := h.2.1; omega
  have p := (yft_5 h5).1
  obtain ⟨q1, q2⟩ := g3 (by omega)
  rw [b] at q1 q2
  refine ⟨by rw [ko.1 124 (by decide)]; exact g1, ?_⟩
  unfold yBeF yBeS at q1 q2
  unfold yBeS at h5 ⊢
  unfold yGbe
  rw [if_neg (by omega), if_neg (by omega)]
  by_cases d : (ypc (yos A (yWn A)) : Int) ≤ k.toInt
  · rw [if_pos d, if_pos d]
  · rw [if_neg d, if_neg d]
    by_cases d2 : k.toInt = -1
    · rw [if_pos d2, if_pos d2]
      exact q1.symm
    · rw [if_neg d2, if_neg d2, ← q2 k.toInt.toNat (by omega)]
      unfold ypa
      rw [ko.1 146 (by decide)]
theorem yGbe0_c {B X Y : pvM} {x l n r k : Int32} (hX : pvOk X) (hn : 0 ≤ n.toInt) (hk : -1 ≤ k.toInt ∧ k.toInt ≤ 4) (h : yBq B X x l n) (ko : yKo x n (some (pvI r)) X Y) (c : r = 0) (d : k.toInt < 0) : yA0 (yGbe k) (some (pvI l)) B := fun A S a => ⟨l, rfl, by
  rw [(yGbe0_i hX hn hk h ko c a).2, if_neg (by omega), if_pos (by omega)]⟩
theorem yGbe0_5 {B X Y : pvM} {x l n r k v : Int32} (hX : pvOk X) (hY : pvOk Y) (hn : 0 ≤ n.toInt) (hk : -1 ≤ k.toInt ∧ k.toInt ≤ 4) (h : yBq B X x l n) (ko : yKo x n (some (pvI r)) X Y) (c : r = 0) (d : Y.1 124 35 ≤ k) (e : v.toInt = -5) : yA0 (yGbe k) (some (pvI v)) B := fun A S a => ⟨v, rfl, by
  have g := yGbe0_i hX hn hk h ko c a
  have r7 := pvok_r hY 124 35 (lo := 0) (hi := 7) rfl
  have t := ycl r7.1
  have g1 := g.1
  rw [zi_le] at d
  rw [g.2, if_pos (by omega), e]⟩
theorem yGbe0_w {B X Y : pvM} {x l n r k : Int32} (hX : pvOk X) (hY : pvOk Y) (hn : 0 ≤ n.toInt) (hk : 0 ≤ k.toInt ∧ k.toInt ≤ 4) (h : yBq B X x l n) (ko : yKo x n (some (pvI r)) X Y) (c : r = 0) (d : ¬ Y.1 124 35 ≤ k) : yA0 (yGbe k) (some (pvI (Y.1 146 (Int32.toNatClampNeg k)))) B := fun A S a => ⟨_, rfl, by
  have g := yGbe0_i hX hn (k := k) (by omega) h ko c a
  have r7 := pvok_r hY 124 35 (lo := 0) (hi := 7) rfl
  have t := ycl r7.1
  have tk := ycl hk.1
  have r6 := pvok_r hY 146 (Int32.toNatClampNeg k) (lo := 0) (hi := 6) rfl
  have t6 := ycl r6.1
  have g1 := g.1
  rw [zi_le] at d
  rw [g.2, if_neg (by omega), if_neg (by omega), show k.toInt.toNat = Int32.toNatClampNeg k by omega]
  exact t6.symm⟩
