/-! two, the reference -/
theorem yTw0 {B Y Z W V X : pvM} {h n3 m1 m2 x1 x2 : Int32} (l : yLR B Y) (p : yLP Y Z) (o : yOn Z W) (g1 : yG0 0 h m1 (some (pvI x1)) W V) (g2 : yG0 h n3 m2 (some (pvI x2)) V X) (hm1 : m1 = W.1 124 1) (hm2 : m2 = V.1 124 1) (hh : h.toInt = (W.1 124 37).toInt - (W.1 124 37).toInt / 2) (h3 : n3 = V.1 124 37) : yJr B X (B.1 124 4) (B.1 124 3) ∧ ∀ (A : pvM) (S : List yCl), yCall A B S → x1.toInt = (yT1 A).1 ∧ x2.toInt = (yT2 A).1 ∧ ∀ w : Nat, w < yWn A → yro ((yT2 A).2.2.2 w) (X.1 143 w).toInt := by
  obtain ⟨jZ, pZ⟩ := yJr_P (yJr_R l) p
  have jW := yJr_3 jZ o.1
  have pW := yJp_3 pZ o.1
  have jV := yJr_3 jW g1.1
  have jX := yJr_3 jV g2.1
  refine ⟨jX, fun A S a => ?_⟩
  have hA := a.1.1.1.1
  have cW := yCb_k a.1 jW.1
  have cV := yCb_k a.1 jV.1
  have r7 := pvok_r hA 100 0 (lo := 0) (hi := 7) rfl
  have t := ycl r7.1
  have e37 : W.1 124 37 = A.1 100 0 := (jW.1 124 37 (by decide)).trans a.2.1.1.symm
  have e37' : V.1 124 37 = A.1 100 0 := (jV.1 124 37 (by decide)).trans a.2.1.1.symm
  rw [e37] at hh
  have th := ycl (x := h) (by omega)
  have cn : yCr_n A = Int32.toNatClampNeg (A.1 100 0) := rfl
  have hn : Int32.toNatClampNeg h = yTh A := by
    unfold yTh
    rw [cn]
    omega
  have pp : ∀ i : Nat, i < yCr_n A → ypa W 144 i = yCr_p A i ∧ yCr_p A i < yWn A := fun i hi => (yJp_p (s := B.1 124 4) (c := B.1 124 3) a.1 a.2.1 pW).2 i hi
  have w1 : m1.toInt = (A.1 8 4).toInt := by rw [hm1, cW.1.2.2.2.1.1]
  have w2 : m2.toInt = (A.1 8 4).toInt := by rw [hm2, cV.1.2.2.2.1.1]
  obtain ⟨f1, y1, ey1, a1, b1⟩ := yG0_g (p := yCr_p A) (n := yTh A) (s := yW0 A (A.1 8 4).toInt) cW g1 (by rw [w1]; exact yW0_e cW _ (yOn_n o)) (by rw [ycl0, hn]; omega) (fun i hi => by rw [ycl0, Nat.zero_add]; exact pp i (by unfold yTh at hi; omega))
  rw [ycl0] at a1 b1
  obtain ⟨f2, y2, ey2, a2, b2⟩ := yG0_g (p := yCr_p A) (n := yCr_n A - yTh A) (s := ((A.1 8 4).toInt, A.1 8 6, A.1 8 7, (yT1 A).2.2.2)) cV g2 ⟨w2.symm, rfl, rfl, b1⟩ (by rw [h3, e37', ← cn, hn]) (fun i hi => by
    rw [hn]
    have z := pp (yTh A + i) (by omega)
    unfold ypa at z ⊢
    rw [f1 144 (by decide)]
    exact z)
  rw [hn] at a2 b2
  have ey1 := zpI ey1
  have ey2 := zpI ey2
  subst ey1 ey2
  exact ⟨a1, a2, b2⟩
theorem yGtw0_n {w x : Int32} {B : pvM} (h : w.toInt < 0 ∨ 1 < w.toInt) (e : x.toInt = -1) : yA0 (yGtw w) (some (pvI x)) B := yA0_n (fun A S => by unfold yGtw; rw [if_pos h, e])
theorem yGtw0_0 {w x x1 x2 : Int32} {B X : pvM} (hX : pvOk X) (h : yJr B X (B.1 124 4) (B.1 124 3) ∧ ∀ (A : pvM) (S : List yCl), yCall A B S → x1.toInt = (yT1 A).1 ∧ x2.toInt = (yT2 A).1 ∧ ∀ w : Nat, w < yWn A → yro ((yT2 A).2.2.2 w) (X.1 143 w).toInt) (c : ¬ (w.toInt < 0 ∨ 1 < w.toInt)) (c0 : w.toInt = 0) (d : yC0 X x) : yA0 (yGtw w) (some (pvI x)) B := fun A S a => ⟨x, rfl, by
  have r := pvok_r hX 124 3 (lo := 0) (hi := 108) rfl
  have k := (h.2 A S a).2.2
  unfold yGtw
  rw [if_neg c, if_pos c0, yC0_L (yCc_k a.1.1 h.1.1) h.1.2.2.2 d, h.1.2.1, h.1.2.2.1, a.2.2.2.1, a.2.2.2.2]
  rw [h.1.2.2.1] at r
  exact (yCs_c a.1.1.1.1 k r.2).symm⟩
theorem yGtw0_1 {w x x1 x2 : Int32} {B X : pvM} (h : yJr B X (B.1 124 4) (B.1 124 3) ∧ ∀ (A : pvM) (S : List yCl), yCall A B S → x1.toInt = (yT1 A).1 ∧ x2.toInt = (yT2 A).1 ∧ ∀ w : Nat, w < yWn A → yro ((yT2 A).2.2.2 w) (X.1 143 w).toInt) (c : ¬ (w.toInt < 0 ∨ 1 < w.toInt)) (c0 : ¬ w.toInt = 0) (d : x.toInt = max x1.toInt x2.toInt) : yA0 (yGtw w) (some (pvI x)) B := fun A S a => ⟨x, rfl, by
  obtain ⟨e1, e2, _⟩ := h.2 A S a
  unfold yGtw
  rw [if_neg c, if_neg c0, d, e1, e2]⟩
/-! worth, the reference -/
theorem yGwo0_n {w x : Int32} {B : pvM} (h : ¬ zvl w (B.1 124 0)) (e : x.toInt = -1) : yA0 (yGwo w) (some (pvI x)) B := fun A S a => ⟨x, rfl, by
  unfold yGwo
  rw [if_neg (show ¬ (0 ≤ w.toInt ∧ w.toInt < (A.1 8 1).toInt) from by rw [a.1.1.2.1]; exact h), e]⟩
theorem yQn_m {A X Y : pvM} {S : List yCl} {s c x : Int32} {sh : Nat → Int} (h : yCc A X S) (j4 : X.1 124 4 = s) (j3 : X.1 124 3 = c) (l : yLaid X) (d : yQn (some (pvI x)) X Y) (k : ∀ w : Nat, w < yWn A → yro (sh w) (yn0 X w).toInt) : x.toInt = yCs A S s c.toInt sh := by
  obtain ⟨_, y, ey, f⟩ := d
  have ey := zpI ey
  subst ey
  rw [f A S sh h l k, j4, j3]
theorem yLd_131 {M X : pvM} {l w : Nat} (k : ∀ a : Nat, a ≠ 131 → X.1 a = M.1 a) (h : yLd M M l w) : yLd X X l w := fun S hS hg v t hv ht => by
  have hS2 : yTS M S := by
    unfold yTS at hS ⊢
    rw [k 124 (by decide)] at hS
    split
    · next c => rw [if_pos c] at hS; exact hS
    · next c => rw [if_neg c] at hS; exact zHR_k hS (fun a b h1 h2 => by by_cases z : a = 131; omega; rw [k a z])
  rw [k 142 (by decide), h S hS2 hg v t hv ht]
  unfold yR0
  rw [k 125 (by decide), k 127 (by decide), k 128 (by decide), k 124 (by decide)]
theorem zlO_131 {M X : pvM} (k : ∀ a : Nat, a ≠ 131 → X.1 a = M.1 a) (w d : Int32) : zlO X w d = zlO M w d := by
  have e : ∀ a n, zL10 X w d a n = zL10 M w d a n := by
    intro a n
    induction n with
    | zero => rfl
    | succ n ih =>
      show (if X.1 134 (a + n) = w then X.1 135 (a + n) else zL10 X w d a n) = (if M.1 134 (a + n) = w then M.1 135 (a + n) else zL10 M w d a n)
      rw [ih, k 134 (by decide), k 135 (by decide)]
  unfold zlO zfi
  rw [k 124 (by decide), e, k 133 (by decide)]
theorem yCc_131 {A M X : pvM} {S : List yCl} (k : ∀ a : Nat, a ≠ 131 → X.1 a = M.1 a) (h : yCc A M S) : yCc A X S := by
  obtain ⟨⟨h1, h2, h3, h4⟩, h5, h6, h7, h10, h11⟩ := h
  refine ⟨⟨h1, h2, ?_, h4⟩, by rw [k 124 (by decide)]; exact h5, fun w hw => ?_, by rw [k 124 (by decide)]; exact h7, by rw [zlO_131 k]; exact h10, by rw [zlO_131 k]; exact h11⟩
  · unfold yTS at h3 ⊢
    rw [k 124 (by decide)]
    split
    · next c => rw [if_pos c] at h3; exact h3
    · next c => rw [if_neg c] at h3; exact zHR_k h3 (fun a b h1 h2 => by by_cases z : a = 131; omega; rw [k a z])
  · obtain ⟨a, b⟩ := h6 w hw
    exact ⟨fun f hf => (a f hf).trans (by rw [k (125 + f) (by omega)]), fun j hj => (b j hj).trans (by rw [k 130 (by decide)])⟩
theorem yGwo0_y {w x y v : Int32} {B Y Z W X : pvM} (hv : zvl w (B.1 124 0)) (l : yLR B Y) (d : yQn (some (pvI x)) Y Z) (e : W = pvu Z 131 (Int32.toNatClampNeg w) v) (hv1 : ¬ v = 0) (d2 : yQn (some (pvI y)) W X) : yA0 (yGwo w) (some (pvI (x - y))) B := fun A S a => ⟨x - y, rfl, by
  have jY := yJr_R l
  have jZ := yJr_3 jY d.1
  have f : ∀ q : Nat, q ≠ 131 → W.1 q = Z.1 q := fun q hq => funext fun b => pvu_n e q b (Or.inl hq)
  have cY := yCb_k a.1 jY.1
  have cZ := yCb_k a.1 jZ.1
  have hA := a.1.1.1.1
  have e1 := yQn_m cY.1 jY.2.1 jY.2.2.1 jY.2.2.2 d (yn0_I cY)
  have cW := yCc_131 f cZ.1
  have lW : yLaid W := by
    unfold yLaid
    rw [zlO_131 f, f 124 (by decide)]
    exact yLd_131 f jZ.2.2.2
  have w7 := yWn_7 hA
  have e2 := yQn_m (sh := yup (ysI A) (Int32.toNatClampNeg w) 0) cW ((congrFun (f 124 (by decide)) 4).trans jZ.2.1) ((congrFun (f 124 (by decide)) 3).trans jZ.2.2.1) lW d2 (fun u hu => by
    unfold yup yn0
    by_cases c : u = Int32.toNatClampNeg w
    · rw [if_pos c, c, pvu_s e, if_neg hv1]
      exact Or.inr (Or.inl ⟨rfl, by decide⟩)
    · rw [if_neg c, pvu_n e 131 u (Or.inr c)]
      exact yn0_I cZ u hu)
  have hv2 : 0 ≤ w.toInt ∧ w.toInt < (A.1 8 1).toInt := by rw [a.1.1.2.1]; exact hv
  unfold yGwo
  rw [if_pos hv2, a.2.2.2.1, a.2.2.2.2, ← yOf e1, ← yOf e2]⟩
/-! sides, the reference -/
def ySd0 (B X : pvM) (w m i : Int32) : Prop := yL0 B X ∧ X.1 124 4 = i ∧ X.1 124 3 = B.1 124 3 ∧ ∀ (A : pvM) (S : List yCl), yCall A B S → yMxI (ysF A S) w m i
theorem yJr_L {X Y : pvM} (h : yLR X Y) : yJr X Y (X.1 124 4) (X.1 124 3) := yJr_R h
theorem ySd0_0 {B X : pvM} {w m v : Int32} (e : X = pvu B 124 4 v) (hw : w.toInt = 0) (hm : m.toInt = -1) (hv : v.toInt = 0) : ySd0 B X w m (X.1 124 4) := ⟨yL0_u e rfl, rfl, pvu_n e 124 3 (Or.inr (by decide)), fun _ _ _ => yMxI_0 hw hm (by rw [pvu_s e]; exact hv)⟩
theorem ySd0_c {B X Y Z : pvM} {w m i x : Int32} (h : ySd0 B X w m i) (hi : 0 ≤ i.toInt) (l : yLR X Y) (d : yQn (some (pvI x)) Y Z) {A : pvM} {S : List yCl} (a : yCall A B S) : x.toInt = ysF A S (Int32.toNatClampNeg i) := by
  obtain ⟨k, k4, k3, _⟩ := h
  have j := yJr_R l
  have c := yCb_k a.1 (yL0_t k j.1)
  rw [yQn_m c.1 (j.2.1.trans k4) (j.2.2.1.trans k3) j.2.2.2 d (yn0_I c)]
  unfold ysF
  rw [nI_c hi, a.2.2.2.1]
theorem ySd0_f {B X Y Z W : pvM} {w m i v x : Int32} (h : ySd0 B X w m i) (l : yLR X Y) (d : yQn (some (pvI x)) Y Z) (e : W = pvu Z 124 4 v) : yL0 B W ∧ W.1 124 3 = B.1 124 3 := by
  obtain ⟨k, k4, k3, _⟩ := h
  have j := yJr_3 (yJr_R l) d.1
  exact ⟨yL0_t (yL0_t k j.1) (yL0_u e rfl), (pvu_n e 124 3 (Or.inr (by decide))).trans (j.2.2.1.trans k3)⟩
theorem ySd0_i {B X Y Z : pvM} {w m i x : Int32} (h : ySd0 B X w m i) (l : yLR X Y) (d : yQn (some (pvI x)) Y Z) : Z.1 124 4 = i := ((yJr_3 (yJr_R l) d.1).2.1).trans h.2.1
theorem ySd0_y {B X Y Z W : pvM} {w m i v x u : Int32} (h : ySd0 B X w m i) (hi : 0 ≤ i.toInt ∧ i.toInt < 4) (l : yLR X Y) (d : yQn (some (pvI x)) Y Z) (e : W = pvu Z 124 4 v) (hv : v = Z.1 124 4 + 1) (hu : u = Z.1 124 4) (c : ¬ x ≤ m) : ySd0 B W u x (W.1 124 4) := by
  have u1 : (1 : Int32).toInt = 1 := by decide
  rw [ySd0_i h l d] at hv hu
  subst hu
  have hv : v.toInt = u.toInt + 1 := by rw [hv, zadd _ _ (by rw [u1]; omega) (by rw [u1]; omega), u1]
  obtain ⟨f1, f2⟩ := ySd0_f h l d e
  exact ⟨f1, rfl, f2, fun A S a => yMxI_y (h.2.2.2 A S a) hi.1 (by rw [pvu_s e]; exact hv) (ySd0_c h hi.1 l d a) c⟩
theorem ySd0_n {B X Y Z W : pvM} {w m i v x : Int32} (h : ySd0 B X w m i) (hi : 0 ≤ i.toInt ∧ i.toInt < 4) (l : yLR X Y) (d : yQn (some (pvI x)) Y Z) (e : W = pvu Z 124 4 v) (hv : v = Z.1 124 4 + 1) (c : x ≤ m) : ySd0 B W w m (W.1 124 4) := by
  have u1 : (1 : Int32).toInt = 1 := by decide
  rw [ySd0_i h l d] at hv
  have hv : v.toInt = i.toInt + 1 := by rw [hv, zadd _ _ (by rw [u1]; omega) (by rw [u1]; omega), u1]
  obtain ⟨f1, f2⟩ := ySd0_f h l d e
  exact ⟨f1, rfl, f2, fun A S a => yMxI_n (h.2.2.2 A S a) hi.1 (by rw [pvu_s e]; exact hv) (ySd0_c h hi.1 l d a) c⟩
theorem yGsd0_n {w x : Int32} {B : pvM} (h : w.toInt < 0 ∨ 1 < w.toInt) (e : x.toInt = -1) : yA0 (yGsd w) (some (pvI x)) B := yA0_n (fun A S => by unfold yGsd; rw [if_pos h, e])
theorem yGsd0_e {B X : pvM} {q w m i : Int32} (h : ySd0 B X w m i) (hi : i.toInt = 4) (c : ¬ (q.toInt < 0 ∨ 1 < q.toInt)) : (q.toInt = 0 → yA0 (yGsd q) (some (pvI w)) B) ∧ (¬ q.toInt = 0 → yA0 (yGsd q) (some (pvI m)) B) := by
  have e : Int32.toNatClampNeg i = 4 := by
    have := ycl (x := i) (by omega)
    omega
  refine ⟨fun z A S a => ⟨w, rfl, ?_⟩, fun z A S a => ⟨m, rfl, ?_⟩⟩
  · have d := h.2.2.2 A S a
    unfold yMxI at d
    rw [e] at d
    unfold yGsd
    rw [if_neg c, if_pos z, d.1]
  · have d := h.2.2.2 A S a
    unfold yMxI at d
    rw [e] at d
    unfold yGsd
    rw [if_neg c, if_neg z, d.2]
/-! begin, the reference -/
def yBg0 (B X : pvM) (w m i : Int32) : Prop := (∃ c : Int32, yJr B X (B.1 124 4) c) ∧ yJp B X ∧ (X.1 124 3 = i ∧ i.toInt ≤ 100) ∧ ∀ (A : pvM) (S : List yCl), yCall A B S → yMxI (ybF A S) w m i
theorem yJr_c {B X Y : pvM} {s c v : Int32} (j : yJr B X s c) (e : Y = pvu X 124 3 v) : yJr B Y s v := by
  have k : yL0 X Y := yL0_u e rfl
  exact ⟨yL0_t j.1 k, (pvu_n e 124 4 (Or.inr (by decide))).trans j.2.1, pvu_s e, yLaid_k k (pvu_n e 124 4 (Or.inr (by decide))) (funext fun b => pvu_n e 142 b (Or.inl (by decide))) j.2.2.2⟩
theorem yJp_c {B X Y : pvM} {v : Int32} (h : yJp B X) (e : Y = pvu X 124 3 v) : yJp B Y := ⟨(pvu_n e 124 35 (Or.inr (by decide))).trans h.1, fun j hj => (pvu_n e 144 j (Or.inl (by decide))).trans (h.2 j hj)⟩
theorem yBg0_0 {B Y Z X : pvM} {w m v : Int32} (l : yLR B Y) (p : yLP Y Z) (e : X = pvu Z 124 3 v) (hw : w.toInt = 0) (hm : m.toInt = -1) (hv : v.toInt = 0) : yBg0 B X w m (X.1 124 3) := by
  obtain ⟨j, jp⟩ := yJr_P (yJr_R l) p
  exact ⟨⟨_, yJr_c j e⟩, yJp_c jp e, ⟨rfl, by rw [pvu_s e]; omega⟩, fun _ _ _ => yMxI_0 hw hm (by rw [pvu_s e]; exact hv)⟩
theorem yBg0_c {B X Z : pvM} {w m i x n1 : Int32} (h : yBg0 B X w m i) (hi : 0 ≤ i.toInt) (d : yQ0 n1 (some (pvI x)) X Z) (hn : n1.toInt = 0) {A : pvM} {S : List yCl} (a : yCall A B S) : x.toInt = ybF A S (Int32.toNatClampNeg i) := by
  obtain ⟨⟨c, j⟩, jp, ⟨k3, _⟩, _⟩ := h
  have jc := j.2.2.1
  rw [k3] at jc
  rw [yQ0_r a.1 a.2.1 j jp d, hn, Int.add_zero, ← jc, ← a.2.2.2.2]
  unfold ybF
  rw [ycl hi]
  rfl
theorem yBg0_y {B X Z W : pvM} {w m i v x u n1 : Int32} (h : yBg0 B X w m i) (hi : 0 ≤ i.toInt ∧ i.toInt < 100) (d : yQ0 n1 (some (pvI x)) X Z) (hn : n1.toInt = 0) (e : W = pvu Z 124 3 v) (hv : v = Z.1 124 3 + 1) (hu : u = Z.1 124 3) (c : ¬ x ≤ m) : yBg0 B W u x (W.1 124 3) := by
  have u1 : (1 : Int32).toInt = 1 := by decide
  have zi : Z.1 124 3 = i := (congrFun (d.1 124 (by decide)) 3).trans h.2.2.1.1
  rw [zi] at hv hu
  subst hu
  have hv : v.toInt = u.toInt + 1 := by rw [hv, zadd _ _ (by rw [u1]; omega) (by rw [u1]; omega), u1]
  obtain ⟨c0, j⟩ := h.1
  exact ⟨⟨_, yJr_c (yJr_3 j d.1) e⟩, yJp_c (yJp_3 h.2.1 d.1) e, ⟨rfl, by rw [pvu_s e, hv]; omega⟩, fun A S a => yMxI_y (h.2.2.2 A S a) hi.1 (by rw [pvu_s e]; exact hv) (yBg0_c h hi.1 d hn a) c⟩
theorem yBg0_n {B X Z W : pvM} {w m i v x n1 : Int32} (h : yBg0 B X w m i) (hi : 0 ≤ i.toInt ∧ i.toInt < 100) (d : yQ0 n1 (some (pvI x)) X Z) (hn : n1.toInt = 0) (e : W = pvu Z 124 3 v) (hv : v = Z.1 124 3 + 1) (c : x ≤ m) : yBg0 B W w m (W.1 124 3) := by
  have u1 : (1 : Int32).toInt = 1 := by decide
  have zi : Z.1 124 3 = i := (congrFun (d.1 124 (by decide)) 3).trans h.2.2.1.1
  rw [zi] at hv
  have hv : v.toInt = i.toInt + 1 := by rw [hv, zadd _ _ (by rw [u1]; omega) (by rw [u1]; omega), u1]
  obtain ⟨c0, j⟩ := h.1
  exact ⟨⟨_, yJr_c (yJr_3 j d.1) e⟩, yJp_c (yJp_3 h.2.1 d.1) e, ⟨rfl, by rw [pvu_s e, hv]; omega⟩, fun A S a => yMxI_n (h.2.2.2 A S a) hi.1 (by rw [pvu_s e]; exact hv) (yBg0_c h hi.1 d hn a) c⟩
theorem yGbg0_n {w x : Int32} {B : pvM} (h : w.toInt < 0 ∨ 1 < w.toInt) (e : x.toInt = -1) : yA0 (yGbg w) (some (pvI x)) B := yA0_n (fun A S => by unfold yGbg; rw [if_pos h, e])
theorem yGbg0_e {B X : pvM} {q w m i : Int32} (h : yBg0 B X w m i) (hi0 : 100 ≤ i.toInt) (c : ¬ (q.toInt < 0 ∨ 1 < q.toInt)) : (q.toInt = 0 → yA0 (yGbg q) (some (pvI w)) B) ∧ (¬ q.toInt = 0 → yA0 (yGbg q) (some (pvI m)) B) := by
  have hi : i.toInt = 100 := by have := h.2.2.1.2; omega
  have e : Int32.toNatClampNeg i = 100 := by
    have := ycl (x := i) (by omega)
    omega
  refine ⟨fun z A S a => ⟨w, rfl, ?_⟩, fun z A S a => ⟨m, rfl, ?_⟩⟩
  · have d := h.2.2.2 A S a
    unfold yMxI at d
    rw [e] at d
    unfold yGbg
    rw [if_neg c, if_pos z, d.1]
  · have d := h.2.2.2 A S a
    unfold yMxI at d
    rw [e] at d
    unfold yGbg
    rw [if_neg c, if_neg z, d.2]
/-! HARM of one WINDOW to the storm's end, the reference -/
def yEn (M : pvM) : Int := (M.1 124 3).toInt + (zlO M 3 15).toInt
def yhI (M : pvM) (n1 s m : Int32) : Prop := yst M (M.1 124 1) ≤ m.toInt ∧ (m.toInt = yst M (M.1 124 1) ∨ m.toInt ≤ yEn M) ∧ (yLaid M → n1.toInt < (M.1 124 0).toInt → ∀ S : List yCl, yTS M S → yGd S → s.toInt = ysg (y0h M S (Int32.toNatClampNeg n1)) (yst M (M.1 124 1)) (m.toInt - yst M (M.1 124 1)).toNat)
theorem yhI_0 {M : pvM} {n1 s m : Int32} (h : m.toInt = yst M (M.1 124 1)) (hs : s.toInt = 0) : yhI M n1 s m := ⟨by omega, Or.inl h, fun _ _ S _ _ => by
  rw [h, show (yst M (M.1 124 1) - yst M (M.1 124 1)).toNat = 0 by omega, hs]; rfl⟩
theorem yhI_s {M : pvM} {n1 s s' m m' x l : Int32} (h : yhI M n1 s m) (hl : l = zlO M 3 15) (hm : m.toInt < (M.1 124 3).toInt + l.toInt) (h2 : m'.toInt = m.toInt + 1) (d : yHm M n1 m x) (hs : s'.toInt = s.toInt + x.toInt) : yhI M n1 s' m' := by
  obtain ⟨a, b, c⟩ := h
  subst hl
  refine ⟨by omega, Or.inr (by unfold yEn; omega), fun hL hn S hS hg => ?_⟩
  rw [show (m'.toInt - yst M (M.1 124 1)).toNat = (m.toInt - yst M (M.1 124 1)).toNat + 1 by omega, hs, c hL hn S hS hg, d hL hn S hS hg]
  show _ = ysg (y0h M S (Int32.toNatClampNeg n1)) (yst M (M.1 124 1)) (m.toInt - yst M (M.1 124 1)).toNat + y0h M S (Int32.toNatClampNeg n1) (yst M (M.1 124 1) + ((m.toInt - yst M (M.1 124 1)).toNat : Int))
  rw [show yst M (M.1 124 1) + ((m.toInt - yst M (M.1 124 1)).toNat : Int) = m.toInt by omega]
def yhO (M : pvM) (n1 x : Int32) : Prop := yLaid M → n1.toInt < (M.1 124 0).toInt → ∀ S : List yCl, yTS M S → yGd S → x.toInt = ysg (y0h M S (Int32.toNatClampNeg n1)) (M.1 124 1).toInt (yEn M - (M.1 124 1).toInt).toNat
theorem yhI_e {M : pvM} {n1 s m l : Int32} (h : yhI M n1 s m) (hl : l = zlO M 3 15) (e : (M.1 124 3).toInt + l.toInt ≤ m.toInt) : yhO M n1 s := fun hL hn S hS hg => by
  obtain ⟨a, b, c⟩ := h
  subst hl
  rw [c hL hn S hS hg]
  have z : ∀ q : Int, ¬ ((M.1 124 3).toInt ≤ q ∧ q < yEn M) → y0h M S (Int32.toNatClampNeg n1) q = 0 := fun q hq => by
    unfold y0h yhm
    rw [if_neg (fun z => hq ⟨z.1, z.2.1⟩)]
  have e : yEn M ≤ m.toInt := e
  have s0 : (M.1 124 1).toInt ≤ yst M (M.1 124 1) ∧ (M.1 124 3).toInt ≤ yst M (M.1 124 1) ∧ (yst M (M.1 124 1) = (M.1 124 1).toInt ∨ yst M (M.1 124 1) = (M.1 124 3).toInt) := by unfold yst; omega
  generalize yst M (M.1 124 1) = st at *
  generalize yEn M = E at *
  by_cases g : m.toInt ≤ E
  · rw [show (E - (M.1 124 1).toInt).toNat = (st - (M.1 124 1).toInt).toNat + ((m.toInt - st).toNat + (E - m.toInt).toNat) by omega, ysg_a, ysg_a, show (M.1 124 1).toInt + ((st - (M.1 124 1).toInt).toNat : Int) = st by omega, show st + ((m.toInt - st).toNat : Int) = m.toInt by omega, ysg_z (a := (M.1 124 1).toInt) (fun q h1 h2 => z q (by omega)), ysg_z (a := m.toInt) (fun q h1 h2 => z q (by omega))]
    omega
  · rw [show (m.toInt - st).toNat = 0 by omega, ysg_z (a := (M.1 124 1).toInt) (fun q h1 h2 => z q (by omega))]
    rfl
/-! from, the reference -/
def yFr0 (B X : pvM) (b i : Int32) : Prop := yL0 B X ∧ X.1 124 4 = i ∧ X.1 124 3 = B.1 124 3 ∧ (∀ w : Nat, w < 7 → X.1 143 w = yn0 B w) ∧ ∀ (A : pvM) (S : List yCl), yCall A B S → b = yFm A S (Int32.toNatClampNeg i)
theorem yFr0_0 {B Y X : pvM} {b v : Int32} (o : yOn B Y) (e : X = pvu Y 124 4 v) (hv : v.toInt = 0) (hb : b = 0) : yFr0 B X b (X.1 124 4) := by
  have i0 : Int32.toNatClampNeg (X.1 124 4) = 0 := by
    rw [pvu_s e]
    have := ycl (x := v) (by omega)
    omega
  refine ⟨yL0_t (yL0_143 o.1) (yL0_u e rfl), rfl, (pvu_n e 124 3 (Or.inr (by decide))).trans (congrFun (o.1 124 (by decide)) 3), fun w hw => (pvu_n e 143 w (Or.inl (by decide))).trans (o.2 w hw), fun A S a => ?_⟩
  rw [i0, hb]; rfl
/-- the rows of SEEN so far -/
def yFr1 (B : pvM) (i t k : Int32) : Prop := k.toInt ≤ (B.1 124 40).toInt ∧ ∀ (A : pvM) (S : List yCl), yCall A B S → 0 ≤ i.toInt → (¬ t = 0 → yaS (ywh A S i) (A.1 110) (A.1 118) (Int32.toNatClampNeg k) = true) ∧ (t = 0 → yaS (ywh A S i) (A.1 110) (A.1 118) (Int32.toNatClampNeg (A.1 102 0)) = false)
theorem yFr1_0 {B : pvM} {i t k : Int32} (hB : pvOk B) (ht : ¬ t = 0) (hk : k.toInt = 0) : yFr1 B i t k := by
  have r := pvok_r hB 124 40 (lo := 0) (hi := 6) rfl
  have k0 : Int32.toNatClampNeg k = 0 := by
    have := ycl (x := k) (by omega)
    omega
  exact ⟨by omega, fun A S a _ => ⟨fun _ => by rw [k0]; rfl, fun z => absurd z ht⟩⟩
theorem yFr1_c {B X Y : pvM} {b i k x : Int32} (h : yFr0 B X b i) (l : yLR X Y) (s143 : ∀ w : Nat, Y.1 143 w = X.1 143 w) (hk : 0 ≤ k.toInt) (hl : k.toInt < (B.1 124 40).toInt) (d : yhO Y (Y.1 147 (Int32.toNatClampNeg k)) x) {A : pvM} {S : List yCl} (a : yCall A B S) : A.1 110 (Int32.toNatClampNeg k) = Y.1 147 (Int32.toNatClampNeg k) ∧ A.1 118 (Int32.toNatClampNeg k) = Y.1 148 (Int32.toNatClampNeg k) ∧ x.toInt = ywh A S i (Int32.toNatClampNeg (A.1 110 (Int32.toNatClampNeg k))) := by
  obtain ⟨h1, h2, h3, h4, _⟩ := h
  have j := yJr_R l
  have kY := yL0_t h1 j.1
  have hA := a.1.1.1.1
  have t := ycl hk
  have r40 := pvok_r hA 102 0 (lo := 0) (hi := 6) rfl
  have e40 := congrArg Int32.toInt a.2.2.1.1.1
  obtain ⟨e1, e2, v⟩ := a.2.2.1.1.2 (Int32.toNatClampNeg k) (by omega) (by omega)
  have f1 : A.1 110 (Int32.toNatClampNeg k) = Y.1 147 (Int32.toNatClampNeg k) := e1.trans (kY 147 _ rfl).symm
  have f2 : A.1 118 (Int32.toNatClampNeg k) = Y.1 148 (Int32.toNatClampNeg k) := e2.trans (kY 148 _ rfl).symm
  have cY := yCb_k a.1 kY
  have w7 := yWn_7 hA
  have wi := yWn_i hA
  have tv := ycl v.1
  have v2 := v.2
  refine ⟨f1, f2, ?_⟩
  rw [← f1] at d
  rw [d j.2.2.2 (by rw [← cY.1.2.1]; exact v2) S cY.1.1.2.2.1 cY.1.1.2.2.2]
  have e0 : ysg (y0h Y S (Int32.toNatClampNeg (A.1 110 (Int32.toNatClampNeg k)))) (Y.1 124 1).toInt (yEn Y - (Y.1 124 1).toInt).toNat = ysg (ych A S (Y.1 124 4) (Y.1 124 3).toInt (fun v => (Y.1 143 v).toInt) (Int32.toNatClampNeg (A.1 110 (Int32.toNatClampNeg k)))) (Y.1 124 1).toInt (yEn Y - (Y.1 124 1).toInt).toNat := ysg_c (fun m _ _ => y0h_x cY.1 (by omega) m)
  have m1 : (Y.1 124 1).toInt = (A.1 8 4).toInt := by rw [cY.1.2.2.2.1.1]
  have r4 := pvok_r hA 8 4 (lo := 0) (hi := 9999) rfl
  have r2 := pvok_r hA 8 2 (lo := 0) (hi := 99) rfl
  have la := yhl hA
  have eE : yEn Y = (A.1 8 2).toInt + yla A := by
    unfold yEn yla
    rw [cY.1.2.2.2.2.2, j.2.2.1, h3, ← a.2.2.2.1]
  rw [e0, m1, eE, j.2.1, j.2.2.1, h2, h3, ← a.2.2.2.1]
  unfold ywh
  refine (ysg_c (fun m h1 h2 => ych_c (by omega) (fun u hu => ?_) (by unfold yla; omega) (by omega))).symm
  rw [s143 u, h4 u (by omega)]
  exact yn0_I a.1 u hu
theorem yFr1_s {B X Y : pvM} {b i t t' k k' x : Int32} (h : yFr0 B X b i) (l : yLR X Y) (s143 : ∀ w : Nat, Y.1 143 w = X.1 143 w) (q : yFr1 B (Y.1 124 4) t k) (hk : 0 ≤ k.toInt) (hl : ¬ Y.1 124 40 ≤ k) (ht : ¬ t = 0) (d : yhO Y (Y.1 147 (Int32.toNatClampNeg k)) x) (h2 : k'.toInt = k.toInt + 1) (c : (x = Y.1 148 (Int32.toNatClampNeg k) ∧ ¬ t' = 0) ∨ (¬ x = Y.1 148 (Int32.toNatClampNeg k) ∧ t' = 0)) : yFr1 B (Y.1 124 4) t' k' := by
  have yi : Y.1 124 4 = i := (yJr_R l).2.1.trans h.2.1
  rw [yi] at q ⊢
  have e40 : Y.1 124 40 = B.1 124 40 := (l.1 124 40 (by decide) (by decide) (Or.inr (by decide))).trans (h.1 124 40 (by decide))
  rw [e40, zi_le] at hl
  have tk := ycl hk
  have t2 : Int32.toNatClampNeg k' = Int32.toNatClampNeg k + 1 := by
    have := ycl (x := k') (by omega)
    omega
  refine ⟨by omega, fun A S a hi => ?_⟩
  obtain ⟨e1, e2, e3⟩ := yFr1_c h l s143 hk (by omega) d a
  have g := (q.2 A S a hi).1 ht
  have ea := congrArg Int32.toInt a.2.2.1.1.1
  have r40 := pvok_r a.1.1.1.1 102 0 (lo := 0) (hi := 6) rfl
  have ta := ycl r40.1
  rcases c with ⟨c, c2⟩ | ⟨c, c2⟩
  · refine ⟨fun _ => ?_, fun z => absurd z c2⟩
    rw [t2]
    show (yaS (ywh A S i) (A.1 110) (A.1 118) (Int32.toNatClampNeg k) && decide (ywh A S i (Int32.toNatClampNeg (A.1 110 (Int32.toNatClampNeg k))) = (A.1 118 (Int32.toNatClampNeg k)).toInt)) = true
    rw [g, ← e3, e2, c]
    simp
  · refine ⟨fun z => absurd c2 z, fun _ => ?_⟩
    exact yaS_f (i := Int32.toNatClampNeg k) (fun z => c ((zi_eq _ _).mpr (by rw [e3, z, e2]))) _ (by omega)
theorem yFr0_s {B X Y Z : pvM} {b b' i t k v : Int32} (h : yFr0 B X b i) (l : yLR X Y) (s143 : ∀ w : Nat, Y.1 143 w = X.1 143 w) (q : yFr1 B (Y.1 124 4) t k) (hi : 0 ≤ i.toInt ∧ i.toInt < 4) (c : (¬ t = 0 ∧ Y.1 124 40 ≤ k ∧ b' = b ||| (1 <<< (Y.1 124 4 &&& 31))) ∨ (t = 0 ∧ b' = b ||| 0)) (e : Z = pvu Y 124 4 v) (hv : v = Y.1 124 4 + 1) : yFr0 B Z b' (Z.1 124 4) := by
  have j := yJr_R l
  have u1 : (1 : Int32).toInt = 1 := by decide
  have yi : Y.1 124 4 = i := j.2.1.trans h.2.1
  rw [yi] at hv q
  have hv : v.toInt = i.toInt + 1 := by rw [hv, zadd _ _ (by rw [u1]; omega) (by rw [u1]; omega), u1]
  have e40 : Y.1 124 40 = B.1 124 40 := (l.1 124 40 (by decide) (by decide) (Or.inr (by decide))).trans (h.1 124 40 (by decide))
  have ti := ycl hi.1
  have t2 : Int32.toNatClampNeg (Z.1 124 4) = Int32.toNatClampNeg i + 1 := by
    rw [pvu_s e]
    have := ycl (x := v) (by omega)
    omega
  refine ⟨yL0_t (yL0_t h.1 j.1) (yL0_u e rfl), rfl, (pvu_n e 124 3 (Or.inr (by decide))).trans (j.2.2.1.trans h.2.2.1), fun w hw => (pvu_n e 143 w (Or.inl (by decide))).trans ((s143 w).trans (h.2.2.2.1 w hw)), fun A S a => ?_⟩
  obtain ⟨q1, q2⟩ := q.2 A S a hi.1
  have g := h.2.2.2.2 A S a
  have yf : yfA A S (Int32.toNatClampNeg i) = yaS (ywh A S i) (A.1 110) (A.1 118) (Int32.toNatClampNeg (A.1 102 0)) := by
    unfold yfA
    rw [nI_c hi.1]
  rw [t2]
  show _ = if yfA A S (Int32.toNatClampNeg i) = true then yFm A S (Int32.toNatClampNeg i) ||| (1 <<< (nI (Int32.toNatClampNeg i) &&& 31)) else yFm A S (Int32.toNatClampNeg i)
  rw [yf, nI_c hi.1, ← g]
  rcases c with ⟨c1, c2, c3⟩ | ⟨c1, c3⟩
  · rw [e40, zi_le] at c2
    have ek : B.1 124 40 = k := (zi_eq _ _).mpr (by have := q.1; omega)
    have z := q1 c1
    rw [← ek, ← a.2.2.1.1.1] at z
    rw [if_pos z, c3, j.2.1, h.2.1]
  · rw [if_neg (by rw [q2 c1]; exact Bool.false_ne_true), c3, Int32.or_zero]
theorem yGfr0_e {B X : pvM} {b i : Int32} (h : yFr0 B X b i) (hi : i.toInt = 4) : yA0 yGfr (some (pvI b)) B := fun A S a => ⟨b, rfl, by
  have e4 : Int32.toNatClampNeg i = 4 := by
    have := ycl (x := i) (by omega)
    omega
  unfold yGfr
  rw [h.2.2.2.2 A S a, e4]⟩
/-! odds, mean, the reference -/
theorem yCr_0 {A B X : pvM} (k : yL0 B X) (h : yCr A B) : yCr A X := ⟨h.1.trans (k 124 37 (by decide)).symm, fun i hi hn => ⟨(h.2 i hi hn).1.trans (k 145 i rfl).symm, (h.2 i hi hn).2⟩⟩
theorem yQr_m {A B X Y : pvM} {S : List yCl} {n1 s c x : Int32} (a : yCall A B S) (k : yL0 B X) (k4 : X.1 124 4 = s) (k3 : X.1 124 3 = c) (d : yQr n1 (some (pvI x)) X Y) (hn : n1.toInt = 0) : x.toInt = yCs A S s c.toInt (yrW A).2.2.2 := by
  obtain ⟨_, y, ey, f⟩ := d
  have ey := zpI ey
  subst ey
  rw [f A S (yCb_k a.1 k) (yCr_0 k a.2.1), k4, k3, hn, Int.add_zero]
  rfl
def yOd0 (B X : pvM) (q n i : Int32) : Prop := yL0 B X ∧ X.1 124 4 = i ∧ X.1 124 3 = B.1 124 3 ∧ ∀ (A : pvM) (S : List yCl), yCall A B S → n.toInt = ytw (yoF A S) q.toInt (Int32.toNatClampNeg i)
theorem yOd0_0 {B X : pvM} {q n v : Int32} (e : X = pvu B 124 4 v) (hv : v.toInt = 0) (hn : n.toInt = 0) : yOd0 B X q n (X.1 124 4) := by
  have i0 : Int32.toNatClampNeg (X.1 124 4) = 0 := by
    rw [pvu_s e]
    have := ycl (x := v) (by omega)
    omega
  exact ⟨yL0_u e rfl, rfl, pvu_n e 124 3 (Or.inr (by decide)), fun A S a => by rw [i0]; exact hn⟩
theorem yOd0_s {B X Y Z : pvM} {q n n' d i x v n1 : Int32} (h : yOd0 B X q n i) (hi : 0 ≤ i.toInt ∧ i.toInt < 4) (k : yQr n1 (some (pvI x)) X Y) (hn1 : n1.toInt = 0) (e : Z = pvu Y 124 4 v) (hv : v = Y.1 124 4 + 1) (c : (x ≤ q ∧ d.toInt = 1) ∨ (¬ x ≤ q ∧ d.toInt = 0)) (hn : n' = n + d) : yOd0 B Z q n' (Z.1 124 4) := by
  have u1 : (1 : Int32).toInt = 1 := by decide
  rw [k.1.2.1.trans h.2.1] at hv
  have hv : v.toInt = i.toInt + 1 := by rw [hv, zadd _ _ (by rw [u1]; omega) (by rw [u1]; omega), u1]
  have t2 : Int32.toNatClampNeg (Z.1 124 4) = Int32.toNatClampNeg i + 1 := by
    rw [pvu_s e]
    have := ycl (x := v) (by omega)
    have := ycl hi.1
    omega
  have ti := ycl hi.1
  refine ⟨yL0_t (yL0_t h.1 k.1.1) (yL0_u e rfl), rfl, (pvu_n e 124 3 (Or.inr (by decide))).trans (k.1.2.2.1.trans h.2.2.1), fun A S a => ?_⟩
  have g := h.2.2.2 A S a
  have b := ytw_b (yoF A S) q.toInt (Int32.toNatClampNeg i)
  have ex : x.toInt = yoF A S (Int32.toNatClampNeg i) := by
    rw [yQr_m a h.1 h.2.1 h.2.2.1 k hn1]
    unfold yoF
    rw [nI_c hi.1, a.2.2.2.1]
  rw [t2]
  show _ = (((if yoF A S (Int32.toNatClampNeg i) ≤ q.toInt then ytw (yoF A S) q.toInt (Int32.toNatClampNeg i) + 1 else ytw (yoF A S) q.toInt (Int32.toNatClampNeg i)) : Nat) : Int)
  rw [← ex]
  rcases c with ⟨c, y⟩ | ⟨c, y⟩
  · rw [if_pos ((zi_le _ _).mp c), hn, zadd _ _ (by omega) (by omega), y, g]; rfl
  · rw [if_neg (fun z => c ((zi_le _ _).mpr z)), hn, zadd _ _ (by omega) (by omega), y, g]; omega
theorem yB0j_n {G : pvM → List yCl → Int} {x : Int64} {B : pvM} (h : ∀ (A : pvM) (S : List yCl), G A S = x.toInt) : yB0j G (some (pvJ x)) B := fun A S _ => ⟨x, rfl, (h A S).symm⟩
theorem yGod0_n {q p : Int32} {x : Int64} {B : pvM} (h : (q.toInt < 0 ∨ 99999 < q.toInt) ∨ (p.toInt < 0 ∨ 1 < p.toInt)) (e : x.toInt = yNO) : yB0j (yGod q p) (some (pvJ x)) B := yB0j_n (fun A S => by unfold yGod; rw [if_pos h, e])
theorem yGod0_e {B X : pvM} {q p n i b : Int32} {x : Int64} (h : yOd0 B X q n i) (hi : i.toInt = 4) (hb : b.toInt = 4) (c : ¬ ((q.toInt < 0 ∨ 99999 < q.toInt) ∨ (p.toInt < 0 ∨ 1 < p.toInt))) (d : yPo n b p x) : yB0j (yGod q p) (some (pvJ x)) B := fun A S a => ⟨x, rfl, by
  have e := h.2.2.2 A S a
  have e4 : Int32.toNatClampNeg i = 4 := by
    have := ycl (x := i) (by omega)
    omega
  have b4 : Int32.toNatClampNeg b = 4 := by
    have := ycl (x := b) (by omega)
    omega
  rw [e4] at e
  have tn := ycl (x := n) (by omega)
  unfold yGod
  rw [if_neg c, d (by omega), b4, show Int32.toNatClampNeg n = ytw (yoF A S) q.toInt 4 by omega]⟩
def yMe0 (B X : pvM) (n i : Int32) : Prop := yL0 B X ∧ X.1 124 4 = B.1 124 4 ∧ ∀ (A : pvM) (S : List yCl), yCall A B S → n.toInt = ysu (ymF A S) (Int32.toNatClampNeg i)
theorem yMe0_0 {B : pvM} {n i : Int32} (hn : n.toInt = 0) (hi : i.toInt = 0) : yMe0 B B n i := by
  have i0 : Int32.toNatClampNeg i = 0 := by
    have := ycl (x := i) (by omega)
    omega
  exact ⟨yL0_r B, rfl, fun A S a => by rw [i0]; exact hn⟩
theorem yMe0_s {B X Y Z : pvM} {n n' i i' x v n1 w : Int32} (hB : pvOk B) (h9 : (B.1 124 3).toInt ≤ 99) (h : yMe0 B X n i) (hi : 0 ≤ i.toInt ∧ i.toInt < 10) (e : Y = pvu X 124 3 v) (hv : v = w + i) (hw : w = B.1 124 3) (k : yQr n1 (some (pvI x)) Y Z) (hn1 : n1.toInt = 0) (h2 : i'.toInt = i.toInt + 1) (hn : n'.toInt = n.toInt + x.toInt) : yMe0 B Z n' i' := by
  have t2 : Int32.toNatClampNeg i' = Int32.toNatClampNeg i + 1 := by
    have := ycl (x := i') (by omega)
    have := ycl hi.1
    omega
  have ti := ycl hi.1
  have r := pvok_r hB 124 3 (lo := 0) (hi := 108) rfl
  have kY : yL0 B Y := yL0_t h.1 (yL0_u e rfl)
  have k4 : Y.1 124 4 = B.1 124 4 := (pvu_n e 124 4 (Or.inr (by decide))).trans h.2.1
  refine ⟨yL0_t kY k.1.1, k.1.2.1.trans k4, fun A S a => ?_⟩
  rw [t2]
  show _ = ysu (ymF A S) (Int32.toNatClampNeg i) + ymF A S (Int32.toNatClampNeg i)
  rw [hn, h.2.2 A S a, yQr_m a kY k4 (pvu_s e) k hn1, hv, hw, zadd _ _ (by omega) (by omega)]
  unfold ymF
  rw [a.2.2.2.1, a.2.2.2.2, ti]
theorem yGme0_n {p : Int32} {x : Int64} {B : pvM} (h : p.toInt < 0 ∨ 1 < p.toInt) (e : x.toInt = yNO) : yB0j (yGme p) (some (pvJ x)) B := yB0j_n (fun A S => by unfold yGme; rw [if_pos h, e])
theorem yGme0_e {B X : pvM} {p n i b : Int32} {x : Int64} (h : yMe0 B X n i) (hi : i.toInt = 10) (hb : b.toInt = 10) (c : ¬ (p.toInt < 0 ∨ 1 < p.toInt)) (d : yPo n b p x) : yB0j (yGme p) (some (pvJ x)) B := fun A S a => ⟨x, rfl, by
  have hA := a.1.1.1.1
  have hS := a.1.1.1.2.1
  have e := h.2.2 A S a
  have e4 : Int32.toNatClampNeg i = 10 := by
    have := ycl (x := i) (by omega)
    omega
  have b4 : Int32.toNatClampNeg b = 10 := by
    have := ycl (x := b) (by omega)
    omega
  rw [e4] at e
  have bd := ysu_b (ymF_b hA hS) 10
  have tn := ycl (x := n) (by omega)
  unfold yGme
  rw [if_neg c, d (by omega), b4, show Int32.toNatClampNeg n = (ysu (ymF A S) 10).toNat by omega]⟩
/-! of, the reference -/
theorem yGof0_n {w k x : Int32} {B : pvM} (h : ¬ zvl w (B.1 124 0)) (e : x.toInt = -1) : yA0 (yGof w k) (some (pvI x)) B := fun A S a => ⟨x, rfl, by
  unfold yGof
  rw [if_neg (show ¬ (0 ≤ w.toInt ∧ w.toInt < (A.1 8 1).toInt) from by rw [a.1.1.2.1]; exact h), e]⟩
theorem yGof0_c {w k x : Int32} {B : pvM} (h : zvl w (B.1 124 0)) (c : (k.toInt = 0 ∧ x = B.1 125 (Int32.toNatClampNeg w)) ∨ (k.toInt = 1 ∧ x = B.1 126 (Int32.toNatClampNeg w)) ∨ (k.toInt = 2 ∧ x = B.1 127 (Int32.toNatClampNeg w)) ∨ (k.toInt = 3 ∧ x = B.1 128 (Int32.toNatClampNeg w)) ∨ (k.toInt = 4 ∧ x = B.1 129 (Int32.toNatClampNeg w)) ∨ (k.toInt = 5 ∧ x.toInt = if B.1 131 (Int32.toNatClampNeg w) = 0 then 0 else 1) ∨ (k.toInt = 6 ∧ x.toInt = zWy (Int32.toInt (zlO B 2 2)) (Int32.toInt (B.1 127 (Int32.toNatClampNeg w))) (Int32.toInt (B.1 128 (Int32.toNatClampNeg w))) (Int32.toInt (B.1 124 5)) (Int32.toInt (B.1 124 6))) ∨ ((k.toInt < 0 ∨ 7 < k.toInt) ∧ x.toInt = -1)) : yA0 (yGof w k) (some (pvI x)) B := fun A S a => ⟨x, rfl, by
  have hv : 0 ≤ w.toInt ∧ w.toInt < (A.1 8 1).toInt := by rw [a.1.1.2.1]; exact h
  have hA := a.1.1.1.1
  have wi := yWn_i hA
  have tw := ycl hv.1
  have hw : Int32.toNatClampNeg w < yWn A := by omega
  obtain ⟨f, _⟩ := a.1.1.2.2.1 _ hw
  have s := a.1.2 _ hw
  have f0 : A.1 (60 + Int32.toNatClampNeg w) 0 = B.1 125 (Int32.toNatClampNeg w) := f 0 (by decide)
  have f1 : A.1 (60 + Int32.toNatClampNeg w) 1 = B.1 126 (Int32.toNatClampNeg w) := f 1 (by decide)
  have f2 : A.1 (60 + Int32.toNatClampNeg w) 2 = B.1 127 (Int32.toNatClampNeg w) := f 2 (by decide)
  have f3 : A.1 (60 + Int32.toNatClampNeg w) 3 = B.1 128 (Int32.toNatClampNeg w) := f 3 (by decide)
  have f4 : A.1 (60 + Int32.toNatClampNeg w) 4 = B.1 129 (Int32.toNatClampNeg w) := f 4 (by decide)
  have e8 := a.1.1.2.2.2.1
  have e2 : yst9 A = (zlO B 2 2).toInt := by unfold yst9; rw [a.1.1.2.2.2.2.1]
  unfold yGof
  rw [if_pos hv, f0, f1, f2, f3, f4, s, e2, e8.2.1, e8.2.2]
  rcases c with ⟨a, b⟩ | ⟨a, b⟩ | ⟨a, b⟩ | ⟨a, b⟩ | ⟨a, b⟩ | ⟨a, b⟩ | ⟨a, b⟩ | ⟨a, b⟩
  · rw [if_pos a, b]
  · rw [if_neg (by omega), if_pos a, b]
  · rw [if_neg (by omega), if_neg (by omega), if_pos a, b]
  · rw [if_neg (by omega), if_neg (by omega), if_neg (by omega), if_pos a, b]
  · rw [if_neg (by omega), if_neg (by omega), if_neg (by omega), if_neg (by omega), if_pos a, b]
  · rw [if_neg (by omega), if_neg (by omega), if_neg (by omega), if_neg (by omega), if_neg (by omega), if_pos a, b]
  · rw [if_neg (by omega), if_neg (by omega), if_neg (by omega), if_neg (by omega), if_neg (by omega), if_neg (by omega), if_pos a, b]
  · rw [if_neg (by omega), if_neg (by omega), if_neg (by omega), if_neg (by omega), if_neg (by omega), if_neg (by omega), if_neg (by omega), if_neg (by omega), b]⟩
theorem yGof0_7 {w k x m : Int32} {B Y Z : pvM} (h : zvl w (B.1 124 0)) (l : yLR B Y) (o : yOn Y Z) (hk : k.toInt = 7) (d : yHm Z w m x) (hm : m = Z.1 124 1) : yA0 (yGof w k) (some (pvI x)) B := fun A S a => ⟨x, rfl, by
  have hv : 0 ≤ w.toInt ∧ w.toInt < (A.1 8 1).toInt := by rw [a.1.1.2.1]; exact h
  have hA := a.1.1.1.1
  have wi := yWn_i hA
  have w7 := yWn_7 hA
  have tw := ycl hv.1
  have hw : Int32.toNatClampNeg w < yWn A := by omega
  have r4 := pvok_r hA 8 4 (lo := 0) (hi := 9999) rfl
  have r2 := pvok_r hA 8 2 (lo := 0) (hi := 99) rfl
  have la := yhl hA
  have j := yJr_3 (yJr_R l) o.1
  have c := yCb_k a.1 j.1
  have e := d j.2.2.2 (by rw [← c.1.2.1]; exact hv.2) S c.1.1.2.2.1 c.1.1.2.2.2
  rw [y0h_x c.1 hw, hm, j.2.1, j.2.2.1, ← a.2.2.2.1, ← a.2.2.2.2, ← c.1.2.2.2.1.1] at e
  unfold yGof yOfw
  rw [if_pos hv, if_neg (by omega), if_neg (by omega), if_neg (by omega), if_neg (by omega), if_neg (by omega), if_neg (by omega), if_neg (by omega), if_pos hk, e]
  refine (ych_c hw (fun u hu => ?_) (by unfold yla; omega) r4.1).symm
  rw [yOn_n o u (by omega)]
  exact yn0_I c u hu⟩
/-! what is summed stays right, call by call -/
def yWK (M X : pvM) : Prop := pvOk M → yWS M → yWS X
theorem yWK_r (M : pvM) : yWK M M := fun _ h => h
theorem yWK_t {M Y X : pvM} (hY : pvOk Y) (h : yWK M Y) (k : yWK Y X) : yWK M X := fun a b => k hY (h a b)
theorem yWK_k {M X : pvM} (k : yKs M X) (h13 : X.1 13 = M.1 13) (h14 : ∀ s : Nat, s < 4 → X.1 14 s = M.1 14 s) : yWK M X := fun hok h => yWS_k hok h k h13 h14
theorem yWK_fr {L : List (Nat × Nat × Nat)} {M X : pvM} (hf : pvFr (pvfp L) M X) (hx : (!pvfq L 13 && !pvfq L 14 && !pvfp L 8 1 && !pvfp L 8 8 && (List.range 36).all (fun i => !pvfq L (15 + i)) && (List.range 7).all (fun w => (List.range 4).all fun b => !pvfp L (60 + w) b)) = true) : yWK M X := by
  simp only [Bool.and_eq_true, Bool.not_eq_true'] at hx
  obtain ⟨⟨⟨⟨⟨h13, h14⟩, h1⟩, h8⟩, hh⟩, hp⟩ := hx
  refine yWK_k ⟨hf _ _ h1, hf _ _ h8, fun a b z1 z2 => hf _ _ (pvfq_p ?_ b), fun w b hw hb => hf _ _ ?_⟩ (funext fun b => hf _ _ (pvfq_p h13 b)) (fun s _ => hf _ _ (pvfq_p h14 s))
  · have k := List.all_eq_true.mp hh (a - 15) (List.mem_range.mpr (by omega))
    rw [show 15 + (a - 15) = a by omega] at k
    simpa using k
  · have k := List.all_eq_true.mp (List.all_eq_true.mp hp w (List.mem_range.mpr hw)) b (List.mem_range.mpr hb)
    simpa using k
theorem yWK_8 {M X : pvM} {k : Nat} {v : Int32} (e : X = pvu M 8 k v) (h : k ≠ 1 ∧ k ≠ 8) : yWK M X := yWK_k ⟨pvu_n e 8 1 (Or.inr (fun z => h.1 z.symm)), pvu_n e 8 8 (Or.inr (fun z => h.2 z.symm)), fun a b _ _ => pvu_n e a b (Or.inl (by omega)), fun w b hw _ => pvu_n e (60 + w) b (Or.inl (by omega))⟩ (funext fun b => pvu_n e 13 b (Or.inl (by decide))) (fun s _ => pvu_n e 14 s (Or.inl (by decide)))
theorem yWK_5 {M X : pvM} {q : Nat} {v : Int32} (e : X = pvu M q 5 v) (h : 59 < q) : yWK M X := yWK_k ⟨pvu_n e 8 1 (Or.inl (by omega)), pvu_n e 8 8 (Or.inl (by omega)), fun a b _ _ => pvu_n e a b (Or.inl (by omega)), fun w b hw hb => pvu_n e (60 + w) b (Or.inr (by omega))⟩ (funext fun b => pvu_n e 13 b (Or.inl (by omega))) (fun s _ => pvu_n e 14 s (Or.inl (by omega)))
theorem yWK_B {M X : pvM} (h : yBN M X) : yWK M X := fun _ z => (h.2.2.2.1 z).1
theorem yWK_F {M X : pvM} (h : yFo X) : yWK M X := fun _ _ => yWS_f h
theorem yWK_12 {M X : pvM} (h : ∀ q : Nat, q ≠ 12 → X.1 q = M.1 q) : yWK M X := fun hok w => yKt_W hok (yKt_12 h) w
theorem yWK_A {G : pvM → List yCl → Int} {r : Option pvV} {M X : pvM} (h : yAn G r M X) : yWK M X := fun _ z => (h z).1
theorem yWK_J {G : pvM → List yCl → Int} {r : Option pvV} {M X : pvM} (h : yAj G r M X) : yWK M X := fun _ z => (h z).1
/-- a HOUSE is read -/
def yWh (M X : pvM) : Prop := yFo X ∨ (X.1 13 = M.1 13 ∧ X.1 14 = M.1 14 ∧ X.1 8 1 = M.1 8 1 ∧ X.1 8 8 = M.1 8 8 ∧ (∀ w b : Nat, w < 7 → b < 4 → X.1 (60 + w) b = M.1 (60 + w) b) ∧ ∀ a c : Nat, 15 ≤ a → a < 51 → ¬ zin (15 + Int32.toNatClampNeg (M.1 0 1)) a → X.1 a c = M.1 a c)
theorem yWh_r (M : pvM) : yWh M M := Or.inr ⟨rfl, rfl, rfl, rfl, fun _ _ _ _ => rfl, fun _ _ _ _ _ => rfl⟩
theorem yWh_n {r : Option pvV} {M Y F : pvM} {L : List (Nat × Nat × Nat)} (hf : pvFr (pvfp L) M Y) (e : F = pvu Y 6 1 0) (h : zH9 r M F) (h6 : (M.1 0 1).toInt < 6) (h8 : Y.1 8 8 = M.1 8 8) (hx : (!pvfq L 13 && !pvfq L 14 && !pvfp L 8 1 && (List.range 7).all (fun w => (List.range 4).all fun b => !pvfp L (60 + w) b)) = true) : yWh M F := by
  simp only [Bool.and_eq_true, Bool.not_eq_true'] at hx
  obtain ⟨⟨⟨h13, h14⟩, h1⟩, hp⟩ := hx
  rcases h with ⟨c, _⟩ | ⟨_, b, S, q, _, _, _, _, _, k, _⟩
  · omega
  · refine Or.inr ⟨funext fun b => (pvu_n e 13 b (Or.inl (by decide))).trans (hf _ _ (pvfq_p h13 b)), funext fun b => (pvu_n e 14 b (Or.inl (by decide))).trans (hf _ _ (pvfq_p h14 b)), (pvu_n e 8 1 (Or.inl (by decide))).trans (hf _ _ h1), (pvu_n e 8 8 (Or.inl (by decide))).trans h8, fun w b hw hb => (pvu_n e (60 + w) b (Or.inl (by omega))).trans (hf _ _ ?_), k⟩
    have k := List.all_eq_true.mp (List.all_eq_true.mp hp w (List.mem_range.mpr hw)) b (List.mem_range.mpr hb)
    simpa using k
theorem yWh_s {M X : pvM} (hok : pvOk M) (hH : zHW M) (h : yWh M X) (w : yWS M) : yWS X := by
  rcases h with h | ⟨h13, h14, h1, h8, hp, hh⟩
  · exact yWS_f h
  · have r := yHp_r hok
    have r1 := pvok_r hok 0 1 (lo := 0) (hi := 6) rfl
    have t1 := ycl r1.1
    have ne : yHp M ≠ 15 + Int32.toNatClampNeg (M.1 0 1) := by
      have e : yHp M = 22 ∨ yHp M = 23 ∨ ∃ t : Int32, 0 ≤ t.toInt ∧ t.toInt < (M.1 0 1).toInt ∧ yHp M = 15 + Int32.toNatClampNeg t := by
        unfold yHp
        rcases hH.2.2.2.1 with ⟨_, b | b⟩ | ⟨a, b, c⟩
        · exact Or.inl (by rw [b]; decide)
        · exact Or.inr (Or.inl (by rw [b]; decide))
        · refine Or.inr (Or.inr ⟨_, a, b, ?_⟩)
          rw [c]
          have := ycl a
          exact znat (nI_toInt (by omega))
      rcases e with e | e | ⟨t, a, b, c⟩
      · omega
      · omega
      · have := ycl a
        omega
    have eH : yHp X = yHp M := by unfold yHp; rw [h8]
    have hk : ∀ a c : Nat, zin (yHp M) a → X.1 a c = M.1 a c := fun a c z => by
      have n : ¬ zin (15 + Int32.toNatClampNeg (M.1 0 1)) a := by
        unfold zin at z ⊢
        omega
      exact hh a c (by unfold zin at z; omega) (by unfold zin at z; omega) n
    intro s hs c v hv S hS j i hj hi
    rw [h14] at c
    rw [h1] at hv
    have r8 := pvok_r hok 8 1 (lo := 0) (hi := 7) rfl
    have v7 : v < 7 := by omega
    rw [eH] at hS ⊢
    have hS2 : zHC M (yHp M) S := zHC_k hS (fun a c z => (hk a c z).symm)
    rw [h13, hk (yHp M) 1 (Or.inl rfl), hp v 0 v7 (by decide), hp v 1 v7 (by decide), hp v 2 v7 (by decide), hp v 3 v7 (by decide)]
    exact w s hs c v hv S hS2 j i hj hi
/-! WET: minutes that go -/
def yWm (A : pvM) (S : List yCl) (n : Nat) : Int := ysm A S (A.1 8 3) (A.1 8 2).toInt (ysI A) (A.1 8 4).toInt n (yWn A)
theorem yWm_b {A : pvM} (hok : pvOk A) {S : List yCl} (hS : zHC A (yHp A) S) (n : Nat) : 0 ≤ yWm A S n ∧ yWm A S n ≤ 1400000 := by
  have r := pvok_r hok 8 4 (lo := 0) (hi := 9999) rfl
  have w7 := yWn_7 hok
  have b := ysm_b hok hS (sd := A.1 8 3) (co := (A.1 8 2).toInt) (sh := ysI A) r.1 n (yWn A) w7
  unfold yWm
  omega
def yWr (M : pvM) (n1 x : Int32) : Prop := ∃ h : Int32, yHA M (M.1 8 4) ((M.1 8 4) + n1) h ∧ x = (if (999999 - (M.1 8 5)) < h then (999999 - (M.1 8 5)) else h)
def yGo9 (n1 : Int32) (r : Option pvV) (M X : pvM) : Prop := ∃ x : Int32, r = some (pvI x) ∧ yWr M n1 x ∧ X.1 8 5 = M.1 8 5 + x
theorem ywt_x {w h : Int32} {C : Int} (hw : 0 ≤ w.toInt ∧ w.toInt ≤ 999999) (hh : h.toInt = C) (hC : 0 ≤ C ∧ C ≤ 1400000) : (w + (if 999999 - w < h then 999999 - w else h)).toInt = min (w.toInt + C) 999999 := by
  have u9 : (999999 : Int32).toInt = 999999 := by decide
  have sb : (999999 - w).toInt = 999999 - w.toInt := by rw [zsub _ _ (by rw [u9]; omega) (by rw [u9]; omega), u9]
  by_cases q : (999999 - w) < h
  · rw [if_pos q, zadd _ _ (by rw [sb]; omega) (by rw [sb]; omega), sb]
    rw [zi_lt, sb] at q
    omega
  · rw [if_neg q]
    rw [zi_lt, sb] at q
    rw [zadd w h (by omega) (by omega)]
    omega
/-- what WET becomes, the class -/
def yPx9 (n : Int32) (M X : pvM) : Prop := yWS M → 0 ≤ (M.1 8 5).toInt ∧ (M.1 8 5).toInt ≤ 999999 → ∀ S : List yCl, zHC M (yHp M) S → (X.1 8 5).toInt = min ((M.1 8 5).toInt + yWm M S (Int32.toNatClampNeg n)) 999999
theorem yPx9_i {M A X : pvM} {n1 : Int32} {r : Option pvV} (hok : pvOk M) (hA : pvOk A) (hn : 0 ≤ n1.toInt ∧ n1.toInt ≤ 9999) (b : yBN M A) (g : yGo9 n1 r A X) : yPx9 n1 M X := fun hW hw S hS => by
  obtain ⟨x, _, ⟨h, d, ex⟩, e⟩ := g
  have L := (yIm_B b).1.1
  have e8 : A.1 8 = M.1 8 := L 8 (by decide)
  obtain ⟨z1, z2⟩ := (yIm_B b).1.2 hW
  have r4 := pvok_r hok 8 4 (lo := 0) (hi := 9999) rfl
  have r2 := pvok_r hok 8 2 (lo := 0) (hi := 99) rfl
  have l := yhl hok
  have tn := ycl hn.1
  have c := d z1 z2 S (yLk_C hok L hS)
  rw [yal_m, e8, zadd _ _ (by omega) (by omega), show ((M.1 8 4).toInt + n1.toInt - (M.1 8 4).toInt).toNat = Int32.toNatClampNeg n1 by omega, (yIm_B b).2.1, (yIm_B b).2.2, ysm_k hok L (W := Int32.toNatClampNeg (M.1 8 1)) (yWn_7 hok)] at c
  have c2 : h.toInt = yWm M S (Int32.toNatClampNeg n1) := by
    rw [c]
    unfold yWm
    exact ysm_c (fun v hv => Or.inl (ySh_B hok b v hv)) (by unfold yla; omega) r4.1 (Nat.le_refl _)
  have bd := yWm_b hok hS (Int32.toNatClampNeg n1)
  rw [e8] at ex e
  rw [e, ex]
  exact ywt_x hw c2 bd
theorem yPx9_c {n : Int32} {M Y X : pvM} (h : yPx9 n M Y) (e : X.1 8 5 = Y.1 8 5) : yPx9 n M X := fun a b S c => by rw [e]; exact h a b S c
def yPw9 (n1 : Int32) (M X : pvM) : Prop := X.1 9 5 = M.1 9 5 ∧ ((¬ zgo n1 (M.1 8 4) ∧ X.1 8 5 = M.1 8 5) ∨ (zgo n1 (M.1 8 4) ∧ yPx9 n1 M X))
def yUw9 (r : Option pvV) (M X : pvM) : Prop := X.1 9 5 = M.1 9 5 ∧ ∃ x : Int32, r = some (pvI x) ∧ ((x.toInt < 0 ∧ X.1 8 5 = M.1 8 5) ∨ (0 ≤ x.toInt ∧ yPx9 x M X))
/-- .. the reference -/
def yPx0 (n : Int32) (M X : pvM) : Prop := ∀ (A : pvM) (S : List yCl), yCall A M S → (X.1 124 2).toInt = min ((M.1 124 2).toInt + yWm A S (Int32.toNatClampNeg n)) 999999
theorem yPx0_i {M Y Z W X : pvM} {n1 x v u b : Int32} (hM : pvOk M) (hn : 0 ≤ n1.toInt ∧ n1.toInt ≤ 9999) (l : yLR M Y) (o : yOn Y Z) (d : yHf Z (Z.1 124 1) b x) (hb : b = Z.1 124 1 + n1) (e : W = pvu Z 124 2 v) (hv : v.toInt = min ((Z.1 124 2).toInt + x.toInt) 999999) (e2 : X = pvu W 124 1 u) : yPx0 n1 M X := fun A S a => by
  have j := yJr_3 (yJr_R l) o.1
  have c := yCb_k a.1 j.1
  have hA := a.1.1.1.1
  have r4 := pvok_r hA 8 4 (lo := 0) (hi := 9999) rfl
  have r2 := pvok_r hA 8 2 (lo := 0) (hi := 99) rfl
  have la := yhl hA
  have tn := ycl hn.1
  have m1 : (Z.1 124 1).toInt = (A.1 8 4).toInt := by rw [c.1.2.2.2.1.1]
  have k := d j.2.2.2 S c.1.1.2.2.1 c.1.1.2.2.2
  rw [hb, zadd _ _ (by omega) (by omega), m1, show ((A.1 8 4).toInt + n1.toInt - (A.1 8 4).toInt).toNat = Int32.toNatClampNeg n1 by omega] at k
  have ez : (X.1 124 2).toInt = v.toInt := by rw [pvu_n e2 124 2 (Or.inr (by decide)), pvu_s e]
  have e3 : Z.1 124 2 = M.1 124 2 := j.1 124 2 (by decide)
  have kx : x.toInt = yWm A S (Int32.toNatClampNeg n1) := by
    rw [k]
    unfold yatW yWm
    rw [yCb_W c.1, ← yat_x c.1 (Nat.le_refl _), j.2.1, j.2.2.1, ← a.2.2.2.1, ← a.2.2.2.2]
    refine (ysm_c (fun u hu => ?_) (by unfold yla; omega) r4.1 (Nat.le_refl _)).symm
    have w7 := yWn_7 hA
    rw [yOn_n o u (by omega)]
    exact yn0_I c u hu
  rw [ez, hv, e3, kx]
theorem yPx0_c {n : Int32} {M Y X : pvM} (h : yPx0 n M Y) (e : X.1 124 2 = Y.1 124 2) : yPx0 n M X := fun A S a => by rw [e]; exact h A S a
def yPw0 (n1 : Int32) (M X : pvM) : Prop := X.1 124 50 = M.1 124 50 ∧ ((¬ zgo n1 (M.1 124 1) ∧ X.1 124 2 = M.1 124 2) ∨ (zgo n1 (M.1 124 1) ∧ yPx0 n1 M X))
def yUw0 (r : Option pvV) (M X : pvM) : Prop := X.1 124 50 = M.1 124 50 ∧ ∃ x : Int32, r = some (pvI x) ∧ ((x.toInt < 0 ∧ X.1 124 2 = M.1 124 2) ∨ (0 ≤ x.toInt ∧ yPx0 x M X))
/-! WET of both, between calls -/
def yWt (M : pvM) : Prop := M.1 8 5 = M.1 124 2 ∧ M.1 9 5 = M.1 124 50
def zW5 (M X : pvM) : Prop := X.1 8 5 = M.1 8 5 ∧ X.1 9 5 = M.1 9 5
def zW2 (M X : pvM) : Prop := X.1 124 2 = M.1 124 2 ∧ X.1 124 50 = M.1 124 50
theorem zW5_r (M : pvM) : zW5 M M := ⟨rfl, rfl⟩
theorem zW2_r (M : pvM) : zW2 M M := ⟨rfl, rfl⟩
theorem zW5_fr {L : List (Nat × Nat × Nat)} {M X : pvM} (hf : pvFr (pvfp L) M X) (hx : (!pvfp L 8 5 && !pvfp L 9 5) = true) : zW5 M X := by
  simp only [Bool.and_eq_true, Bool.not_eq_true'] at hx
  exact ⟨hf _ _ hx.1, hf _ _ hx.2⟩
theorem zW2_fr {L : List (Nat × Nat × Nat)} {M X : pvM} (hf : pvFr (pvfp L) M X) (hx : (!pvfp L 124 2 && !pvfp L 124 50) = true) : zW2 M X := by
  simp only [Bool.and_eq_true, Bool.not_eq_true'] at hx
  exact ⟨hf _ _ hx.1, hf _ _ hx.2⟩
def yIw9 (M X : pvM) : Prop := X.1 8 5 = M.1 8 5 ∧ X.1 9 5 = M.1 8 5
def yIw0 (M X : pvM) : Prop := X.1 124 2 = M.1 124 2 ∧ X.1 124 50 = M.1 124 2
def yVw9 (M X : pvM) : Prop := (M.1 0 5 = 0 ∧ zW5 M X) ∨ (¬ M.1 0 5 = 0 ∧ X.1 8 5 = M.1 9 5 ∧ X.1 9 5 = M.1 9 5)
def yVw0 (M X : pvM) : Prop := (M.1 124 46 = 0 ∧ zW2 M X) ∨ (¬ M.1 124 46 = 0 ∧ X.1 124 2 = M.1 124 50 ∧ X.1 124 50 = M.1 124 50)
theorem yWt_k {M Y X : pvM} (h : yWt M) (a : zW5 M Y) (b : zW2 M Y) (a2 : zW5 Y X) (b2 : zW2 Y X) : yWt X := ⟨by rw [a2.1, a.1, b2.1, b.1]; exact h.1, by rw [a2.2, a.2, b2.2, b.2]; exact h.2⟩
theorem yWt_i {M Y X : pvM} (h : yWt M) (a : yIw9 M Y) (b : zW2 M Y) (a2 : zW5 Y X) (b2 : yIw0 Y X) : yWt X := ⟨by rw [a2.1, a.1, b2.1, b.1]; exact h.1, by rw [a2.2, a.2, b2.2, b.1]; exact h.1⟩
theorem yWt_u {M Y X : pvM} (h : yWt M) (e : Y.1 124 46 = M.1 0 5) (a : yVw9 M Y) (b : zW2 M Y) (a2 : zW5 Y X) (b2 : yVw0 Y X) : yWt X := by
  unfold yVw0 at b2
  rw [e] at b2
  rcases a with ⟨c, a⟩ | ⟨c, a1, a3⟩ <;> rcases b2 with ⟨d, b2⟩ | ⟨d, b3, b4⟩
  · exact yWt_k h a b a2 b2
  · exact absurd c d
  · exact absurd d c
  · exact ⟨by rw [a2.1, a1, b3, b.2]; exact h.2, by rw [a2.2, a3, b4, b.2]; exact h.2⟩
theorem yPx_e {n : Int32} {M Y Y' X : pvM} {S : List yCl} (hok : pvOk M) (h : yWt M) (b : zW2 M Y) (hW : yWS M) (a : yCall M Y S) (p : yPx9 n M Y') (q : yPx0 n Y X) : (Y'.1 8 5).toInt = (X.1 124 2).toInt := by
  have r := pvok_r hok 124 2 (lo := 0) (hi := 999999) rfl
  rw [← h.1] at r
  rw [p hW r S a.1.1.1.2.1, q M S a, b.1, h.1]
theorem yWt_p {n1 : Int32} {M Y X : pvM} {S : List yCl} (hok : pvOk M) (h : yWt M) (p : yPw9 n1 M Y) (b : zW2 M Y) (a2 : zW5 Y X) (q : yPw0 n1 Y X) (hW : yWS M) (a : yCall M Y S) : yWt X := by
  obtain ⟨p1, p⟩ := p
  obtain ⟨q1, q⟩ := q
  refine ⟨?_, by rw [a2.2, p1, q1, b.2]; exact h.2⟩
  rw [a2.1]
  have m1 : Y.1 124 1 = M.1 8 4 := a.1.1.2.2.2.1.1.symm
  rw [m1] at q
  rcases p with ⟨c, p⟩ | ⟨c, p⟩ <;> rcases q with ⟨d, q⟩ | ⟨d, q⟩
  · rw [p, q, b.1]; exact h.1
  · exact absurd d c
  · exact absurd c d
  · exact (zi_eq _ _).mpr (yPx_e hok h b hW a p q)
theorem yWt_t {v w : Int32} {M Y X : pvM} {S : List yCl} (hok : pvOk M) (h : yWt M) (e : v = w) (p : yUw9 (some (pvI v)) M Y) (b : zW2 M Y) (a2 : zW5 Y X) (q : yUw0 (some (pvI w)) Y X) (hW : yWS M) (a : yCall M Y S) : yWt X := by
  obtain ⟨p1, x, ex, p⟩ := p
  obtain ⟨q1, y, ey, q⟩ := q
  have ex := zpI ex
  have ey := zpI ey
  subst ex ey e
  refine ⟨?_, by rw [a2.2, p1, q1, b.2]; exact h.2⟩
  rw [a2.1]
  rcases p with ⟨c, p⟩ | ⟨c, p⟩ <;> rcases q with ⟨d, q⟩ | ⟨d, q⟩
  · rw [p, q, b.1]; exact h.1
  · omega
  · omega
  · exact (zi_eq _ _).mpr (yPx_e hok h b hW a p q)
/-! told -/
def yOb (A : pvM) : Nat → Int32
  | 0 => 0
  | n + 1 => if A.1 (60 + n) 5 = 0 then yOb A n ||| (1 <<< (nI n &&& 31)) else yOb A n
def yObI (M : pvM) (b w : Int32) : Prop := w.toInt ≤ (M.1 8 1).toInt ∧ b = yOb M (Int32.toNatClampNeg w)
theorem yObI_0 {M : pvM} (hok : pvOk M) : yObI M 0 0 := by
  have r := pvok_r hok 8 1 (lo := 0) (hi := 7) rfl
  have u0 : (0 : Int32).toInt = 0 := by decide
  exact ⟨by omega, by rw [ycl0]; rfl⟩
theorem yObI_s {M : pvM} {b b' w w' : Int32} (h : yObI M b w) (h0 : 0 ≤ w.toInt) (hl : w.toInt < (M.1 8 1).toInt) (h2 : w'.toInt = w.toInt + 1) (c : (M.1 (pvbs 10 + Int32.toNatClampNeg w) 5 = 0 ∧ b' = b ||| (1 <<< (w &&& 31))) ∨ (¬ M.1 (pvbs 10 + Int32.toNatClampNeg w) 5 = 0 ∧ b' = b)) : yObI M b' w' := by
  have t := ycl h0
  have t2 : Int32.toNatClampNeg w' = Int32.toNatClampNeg w + 1 := by
    have := ycl (x := w') (by omega)
    omega
  have pb : pvbs 10 = 60 := rfl
  rw [pb] at c
  refine ⟨by omega, ?_⟩
  rw [t2]
  show _ = if M.1 (60 + Int32.toNatClampNeg w) 5 = 0 then yOb M (Int32.toNatClampNeg w) ||| (1 <<< (nI (Int32.toNatClampNeg w) &&& 31)) else yOb M (Int32.toNatClampNeg w)
  rw [nI_c h0, ← h.2]
  rcases c with ⟨c, d⟩ | ⟨c, d⟩
  · rw [if_pos c, d]
  · rw [if_neg c, d]
theorem yObI_e {M : pvM} {b w : Int32} (h : yObI M b w) (c : M.1 8 1 ≤ w) : b = yOb M (yWn M) := by
  rw [zi_le] at c
  have e : M.1 8 1 = w := (zi_eq _ _).mpr (by have := h.1; omega)
  unfold yWn
  rw [e]
  exact h.2
def yOc (B : pvM) : Nat → Int32
  | 0 => 0
  | n + 1 => if B.1 131 n = 0 then yOc B n ||| (1 <<< (nI n &&& 31)) else yOc B n
theorem yOb_c {A B : pvM} : ∀ {n : Nat}, (∀ w : Nat, w < n → A.1 (60 + w) 5 = B.1 131 w) → yOb A n = yOc B n
  | 0, _ => rfl
  | n + 1, h => by
    show (if A.1 (60 + n) 5 = 0 then yOb A n ||| (1 <<< (nI n &&& 31)) else yOb A n) = (if B.1 131 n = 0 then yOc B n ||| (1 <<< (nI n &&& 31)) else yOc B n)
    rw [yOb_c (fun w hw => h w (by omega)), h n (by omega)]
def yOcI (M : pvM) (b w : Int32) : Prop := w.toInt ≤ (M.1 124 0).toInt ∧ b = yOc M (Int32.toNatClampNeg w)
theorem yOcI_0 {M : pvM} (hok : pvOk M) : yOcI M 0 0 := by
  have r := pvok_r hok 124 0 (lo := 0) (hi := 7) rfl
  have u0 : (0 : Int32).toInt = 0 := by decide
  exact ⟨by omega, by rw [ycl0]; rfl⟩
theorem yOcI_s {M : pvM} {b b' w w' : Int32} (h : yOcI M b w) (h0 : 0 ≤ w.toInt) (hl : w.toInt < (M.1 124 0).toInt) (h2 : w'.toInt = w.toInt + 1) (c : (M.1 131 (Int32.toNatClampNeg w) = 0 ∧ b' = b ||| (1 <<< (w &&& 31))) ∨ (¬ M.1 131 (Int32.toNatClampNeg w) = 0 ∧ b' = b ||| 0)) : yOcI M b' w' := by
  have t := ycl h0
  have t2 : Int32.toNatClampNeg w' = Int32.toNatClampNeg w + 1 := by
    have := ycl (x := w') (by omega)
    omega
  refine ⟨by omega, ?_⟩
  rw [t2]
  show _ = if M.1 131 (Int32.toNatClampNeg w) = 0 then yOc M (Int32.toNatClampNeg w) ||| (1 <<< (nI (Int32.toNatClampNeg w) &&& 31)) else yOc M (Int32.toNatClampNeg w)
  rw [nI_c h0, ← h.2]
  rcases c with ⟨c, d⟩ | ⟨c, d⟩
  · rw [if_pos c, d]
  · rw [if_neg c, d, Int32.or_zero]
theorem yOcI_e {M : pvM} {b w : Int32} (h : yOcI M b w) (c : M.1 124 0 ≤ w) : b = yOc M (Int32.toNatClampNeg (M.1 124 0)) := by
  rw [zi_le] at c
  have e : M.1 124 0 = w := (zi_eq _ _).mpr (by have := h.1; omega)
  rw [e]
  exact h.2
def yGto (k : Int32) (A : pvM) : Int32 := if k = 0 then A.1 8 4 else if k = 1 then A.1 8 5 else if k = 2 then A.1 8 2 else if k = 3 then A.1 8 3 else if k = 4 then A.1 (yHp A) 0 else if k = 5 then A.1 (yHp A) 1 else if k = 6 then A.1 8 6 else if k = 7 then A.1 8 7 else if k = 8 then yOb A (yWn A) else -1
def yTo9 (k : Int32) (r : Option pvV) (M : pvM) : Prop := r = some (pvI (yGto k M))
def yTo0 (k : Int32) (r : Option pvV) (B : pvM) : Prop := ∀ (A : pvM) (S : List yCl), yCall A B S → A.1 8 5 = B.1 124 2 → r = some (pvI (yGto k A))
def yHt0 (k : Int32) (B : pvM) : Int32 := if k = 0 then B.1 124 1 else if k = 1 then B.1 124 2 else if k = 2 then B.1 124 3 else if k = 3 then B.1 124 4 else if k = 4 then zlO B 2 2 else if k = 5 then zlO B 3 15 else if k = 6 then B.1 124 5 else if k = 7 then B.1 124 6 else if k = 8 then yOc B (Int32.toNatClampNeg (B.1 124 0)) else -1
theorem yTo0_i {k x : Int32} {B : pvM} (h : x = yHt0 k B) : yTo0 k (some (pvI x)) B := fun A S a w => by
  have e : yGto k A = yHt0 k B := by
    unfold yGto yHt0
    rw [a.1.1.2.2.2.1.1, w, a.2.2.2.1, a.2.2.2.2, a.1.1.2.2.2.2.1, a.1.1.2.2.2.2.2, a.1.1.2.2.2.1.2.1, a.1.1.2.2.2.1.2.2, yCb_W a.1.1, yOb_c (B := B) (n := yWn A) (fun w hw => a.1.2 w hw)]
  rw [e, h]
/-! orders of a set of windows, by number; the next row of the same windows -/
def yft : Nat → Nat
  | 0 => 1
  | n + 1 => (n + 1) * yft n
/-- of a set as bits: that one which has so many below it -/
def yoW (s : Nat) : Nat → Nat → Nat → Nat
  | 0, _, w => w
  | f + 1, nth, w => if s.testBit w && Nat.beq nth 0 then w else yoW s f (if s.testBit w then nth - 1 else nth) (w + 1)
def yoP : Nat → Nat → Nat → List Nat
  | 0, _, _ => []
  | n + 1, s, t => yoW s 7 (t / yft n) 0 :: yoP n (s - 2 ^ (yoW s 7 (t / yft n) 0)) (t % yft n)
def ypc (s : Nat) : Nat := (List.range 7).countP (fun w => s.testBit w)
def yoT (s t i : Nat) : Nat := (yoP (ypc s) s t).getD i 0
/-- from the right the first that is below its neighbour -/
def yri (f : Nat → Nat) : Nat → Option Nat
  | 0 => none
  | k + 1 => if f (k + 1) ≤ f k then yri f k else some k
def yhi (f : Nat → Nat) (r : Nat) : Nat → Nat
  | 0 => 0
  | k + 1 => if r < k + 1 ∧ f (k + 1) ≤ f r then yhi f r k else k + 1
def ysw (f : Nat → Nat) (a b : Nat) : Nat → Nat := fun i => if i = b then f a else if i = a then f b else f i
def yrv (g : Nat → Nat) (a b : Nat) : Nat → Nat := fun i => if a ≤ i ∧ i ≤ b then g (a + b - i) else g i
def ynp (f : Nat → Nat) (n r : Nat) : Nat → Nat := yrv (ysw f r (yhi f r (n - 1))) (r + 1) (n - 1)
def ychk (s t : Nat) : Bool := match yri (yoT s t) (ypc s - 1) with
  | none => Nat.beq (t + 1) (yft (ypc s))
  | some r => Nat.blt (t + 1) (yft (ypc s)) && (List.range (ypc s)).all (fun i => Nat.beq (ynp (yoT s t) (ypc s) r i) (yoT s (t + 1) i)) && Nat.blt (r + 1) (ypc s)
set_option maxRecDepth 100000 in
theorem ychk_t : ((List.range 128).all fun s => !Nat.ble (ypc s) 5 || (List.range (yft (ypc s))).all fun t => ychk s t && (List.range (ypc s)).all fun i => s.testBit (yoT s t i) && Nat.blt (yoT s t i) 7) = true := by decide +kernel
theorem yo0_t : ((List.range 128).all fun s => (List.range (ypc s)).all fun i => Nat.beq (yoT s 0 i) (((List.range 7).filter (fun w => s.testBit w)).getD i 0)) = true := by decide +kernel
