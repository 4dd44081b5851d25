/-! the class's next row -/
theorem yri_c {f g : Nat → Nat} : ∀ {k : Nat}, (∀ i : Nat, i ≤ k → f i = g i) → yri f k = yri g k
  | 0, _ => rfl
  | k + 1, h => by
    show (if f (k + 1) ≤ f k then yri f k else some k) = (if g (k + 1) ≤ g k then yri g k else some k)
    rw [h (k + 1) (Nat.le_refl _), h k (by omega), yri_c (fun i hi => h i (by omega))]
theorem yhi_c {f g : Nat → Nat} {r : Nat} : ∀ {k : Nat}, r ≤ k → (∀ i : Nat, i ≤ k → f i = g i) → yhi f r k = yhi g r k
  | 0, _, _ => rfl
  | k + 1, hr, h => by
    show (if r < k + 1 ∧ f (k + 1) ≤ f r then yhi f r k else k + 1) = (if r < k + 1 ∧ g (k + 1) ≤ g r then yhi g r k else k + 1)
    rw [h (k + 1) (Nat.le_refl _), h r hr]
    by_cases c : r < k + 1 ∧ g (k + 1) ≤ g r
    · rw [if_pos c, if_pos c, yhi_c (by omega) (fun i hi => h i (by omega))]
    · rw [if_neg c, if_neg c]
theorem yhi_l {f : Nat → Nat} {r : Nat} : ∀ k : Nat, yhi f r k ≤ k
  | 0 => Nat.le_refl _
  | k + 1 => by
    have := yhi_l (f := f) (r := r) k
    show (if r < k + 1 ∧ f (k + 1) ≤ f r then yhi f r k else k + 1) ≤ k + 1
    split <;> omega
theorem ynp_c {f g : Nat → Nat} {n r : Nat} (hr : r + 1 < n) (h : ∀ i : Nat, i < n → f i = g i) : ∀ i : Nat, i < n → ynp f n r i = ynp g n r i := fun i hi => by
  have e := yhi_c (f := f) (g := g) (r := r) (k := n - 1) (by omega) (fun j hj => h j (by omega))
  have l := yhi_l (f := g) (r := r) (n - 1)
  unfold ynp
  rw [e]
  have w : ∀ j : Nat, j < n → ysw f r (yhi g r (n - 1)) j = ysw g r (yhi g r (n - 1)) j := fun j hj => by
    unfold ysw
    rw [h r (by omega), h (yhi g r (n - 1)) (by omega), h j hj]
  unfold yrv
  rw [w i hi]
  by_cases c : r + 1 ≤ i ∧ i ≤ n - 1
  · rw [if_pos c, if_pos c, w _ (by omega)]
  · rw [if_neg c, if_neg c]
/-- two change places -/
def ySwp (n1 n2 : Int32) (M X : pvM) : Prop := (∀ q : Nat, q ≠ 114 → X.1 q = M.1 q) ∧ ∀ i : Nat, ypa X 114 i = ysw (ypa M 114) (Int32.toNatClampNeg n1) (Int32.toNatClampNeg n2) i
theorem ySwp_i {n1 n2 v1 v2 : Int32} {M Y X : pvM} (e1 : Y = pvu M 114 (Int32.toNatClampNeg n1) v1) (h1 : v1 = M.1 114 (Int32.toNatClampNeg n2)) (e2 : X = pvu Y 114 (Int32.toNatClampNeg n2) v2) (h2 : v2 = M.1 114 (Int32.toNatClampNeg n1)) : ySwp n1 n2 M X := by
  refine ⟨fun q hq => funext fun b => (pvu_n e2 q b (Or.inl hq)).trans (pvu_n e1 q b (Or.inl hq)), fun i => ?_⟩
  unfold ysw ypa
  by_cases c : i = Int32.toNatClampNeg n2
  · rw [if_pos c, c, pvu_s e2, h2]
  · rw [if_neg c, pvu_n e2 114 i (Or.inr c)]
    by_cases d : i = Int32.toNatClampNeg n1
    · rw [if_pos d, d, pvu_s e1, h1]
    · rw [if_neg d, pvu_n e1 114 i (Or.inr d)]
theorem ypa_l {M : pvM} (hok : pvOk M) (i j : Nat) : (M.1 114 i ≤ M.1 114 j ↔ ypa M 114 i ≤ ypa M 114 j) := by
  have a := pvok_r hok 114 i (lo := 0) (hi := 6) rfl
  have b := pvok_r hok 114 j (lo := 0) (hi := 6) rfl
  have c := ycl a.1
  have d := ycl b.1
  unfold ypa
  rw [zi_le]
  omega
/-- the rise is looked for -/
def yPr (M : pvM) (r : Int32) : Prop := yri (ypa M 114) (Int32.toNatClampNeg (M.1 106 0) - 1) = yri (ypa M 114) (r.toInt + 1).toNat
theorem yPr_0 {M : pvM} {r : Int32} (hok : pvOk M) (h : r.toInt = (M.1 106 0).toInt - 2) : yPr M r := by
  have a := pvok_r hok 106 0 (lo := 0) (hi := 7) rfl
  have t := ycl a.1
  unfold yPr
  rw [show Int32.toNatClampNeg (M.1 106 0) - 1 = (r.toInt + 1).toNat by omega]
theorem yPr_x {M : pvM} {r r1 : Int32} (hok : pvOk M) (h : yPr M r) (h0 : 0 ≤ r.toInt) (h1 : r1.toInt = r.toInt + 1) : yri (ypa M 114) (Int32.toNatClampNeg (M.1 106 0) - 1) = if M.1 114 (Int32.toNatClampNeg r1) ≤ M.1 114 (Int32.toNatClampNeg r) then yri (ypa M 114) r.toInt.toNat else some r.toInt.toNat := by
  have t := ycl h0
  have t1 := ycl (x := r1) (by omega)
  unfold yPr at h
  rw [h, show (r.toInt + 1).toNat = r.toInt.toNat + 1 by omega]
  show (if ypa M 114 (r.toInt.toNat + 1) ≤ ypa M 114 r.toInt.toNat then _ else _) = _
  simp only [ypa_l hok]
  rw [show Int32.toNatClampNeg r1 = r.toInt.toNat + 1 by omega, show Int32.toNatClampNeg r = r.toInt.toNat by omega]
theorem yPr_s {M : pvM} {r r' r1 : Int32} (hok : pvOk M) (h : yPr M r) (h0 : 0 ≤ r.toInt) (h1 : r1.toInt = r.toInt + 1) (c : M.1 114 (Int32.toNatClampNeg r1) ≤ M.1 114 (Int32.toNatClampNeg r)) (h2 : r'.toInt = r.toInt - 1) : yPr M r' := by
  have e := yPr_x hok h h0 h1
  rw [if_pos c] at e
  unfold yPr
  rw [e, h2, show r.toInt - 1 + 1 = r.toInt by omega]
theorem yPr_n {M : pvM} {r : Int32} (h : yPr M r) (h0 : r.toInt < 0) : yri (ypa M 114) (Int32.toNatClampNeg (M.1 106 0) - 1) = none := by
  unfold yPr at h
  rw [h, show (r.toInt + 1).toNat = 0 by omega]
  rfl
theorem yPr_y {M : pvM} {r r1 : Int32} (hok : pvOk M) (h : yPr M r) (h0 : 0 ≤ r.toInt) (h1 : r1.toInt = r.toInt + 1) (c : ¬ M.1 114 (Int32.toNatClampNeg r1) ≤ M.1 114 (Int32.toNatClampNeg r)) : yri (ypa M 114) (Int32.toNatClampNeg (M.1 106 0) - 1) = some (Int32.toNatClampNeg r) := by
  have t := ycl h0
  rw [yPr_x hok h h0 h1, if_neg c, show r.toInt.toNat = Int32.toNatClampNeg r by omega]
/-- the higher one is looked for -/
def yPh1 (M : pvM) (r h : Int32) : Prop := yhi (ypa M 114) (Int32.toNatClampNeg r) (Int32.toNatClampNeg (M.1 106 0) - 1) = yhi (ypa M 114) (Int32.toNatClampNeg r) (Int32.toNatClampNeg h)
theorem yPh1_0 {M : pvM} {r h : Int32} (hok : pvOk M) (e : h.toInt = (M.1 106 0).toInt - 1) (h0 : 0 ≤ h.toInt) : yPh1 M r h := by
  have a := pvok_r hok 106 0 (lo := 0) (hi := 7) rfl
  have t := ycl a.1
  have t2 := ycl h0
  unfold yPh1
  rw [show Int32.toNatClampNeg (M.1 106 0) - 1 = Int32.toNatClampNeg h by omega]
theorem yPh1_s {M : pvM} {r h h' : Int32} (hok : pvOk M) (k : yPh1 M r h) (hr : 0 ≤ r.toInt) (l : r.toInt < h.toInt) (c : M.1 114 (Int32.toNatClampNeg h) ≤ M.1 114 (Int32.toNatClampNeg r)) (h2 : h'.toInt = h.toInt - 1) : yPh1 M r h' := by
  have t := ycl hr
  have t1 := ycl (x := h) (by omega)
  have t2 := ycl (x := h') (by omega)
  unfold yPh1 at k ⊢
  rw [k, show Int32.toNatClampNeg h = Int32.toNatClampNeg h' + 1 by omega]
  show (if _ then _ else _) = _
  rw [if_pos ⟨by omega, by rw [← ypa_l hok, show Int32.toNatClampNeg h' + 1 = Int32.toNatClampNeg h by omega]; exact c⟩]
theorem yPh1_e {M : pvM} {r h : Int32} (hok : pvOk M) (k : yPh1 M r h) (hr : 0 ≤ r.toInt) (h0 : 0 ≤ h.toInt) (c : h.toInt ≤ r.toInt ∨ ¬ M.1 114 (Int32.toNatClampNeg h) ≤ M.1 114 (Int32.toNatClampNeg r)) : yhi (ypa M 114) (Int32.toNatClampNeg r) (Int32.toNatClampNeg (M.1 106 0) - 1) = Int32.toNatClampNeg h := by
  have t := ycl hr
  have t1 := ycl h0
  unfold yPh1 at k
  rw [k]
  cases e : Int32.toNatClampNeg h with
  | zero => rfl
  | succ j =>
    show (if _ then _ else _) = _
    rw [if_neg (fun z => c.elim (fun c => by omega) (fun c => c ((ypa_l hok _ _).mpr (by rw [e]; exact z.2))))]
/-- turned round so far -/
def yrp (g : Nat → Nat) (a b i : Nat) : Nat → Nat := fun q => if (a ≤ q ∧ q < i) ∨ (a + b < q + i ∧ q ≤ b) then g (a + b - q) else g q
def yPv (M X : pvM) (r h i j : Int32) : Prop := (∀ q : Nat, q ≠ 114 → X.1 q = M.1 q) ∧ (Int32.toNatClampNeg i + Int32.toNatClampNeg j = Int32.toNatClampNeg r + Int32.toNatClampNeg (M.1 106 0) ∧ Int32.toNatClampNeg r + 1 ≤ Int32.toNatClampNeg i ∧ 0 ≤ j.toInt ∧ Int32.toNatClampNeg i < Int32.toNatClampNeg (M.1 106 0)) ∧ ∀ q : Nat, ypa X 114 q = yrp (ysw (ypa M 114) (Int32.toNatClampNeg r) (Int32.toNatClampNeg h)) (Int32.toNatClampNeg r + 1) (Int32.toNatClampNeg (M.1 106 0) - 1) (Int32.toNatClampNeg i) q
theorem yPv_0 {M Y : pvM} {r h i j : Int32} (hok : pvOk M) (s : ySwp r h M Y) (hr : 0 ≤ r.toInt) (hi : i.toInt = r.toInt + 1) (hj : j.toInt = (M.1 106 0).toInt - 1) (h0 : 0 < i.toInt ∧ i.toInt ≤ j.toInt) : yPv M Y r h i j := by
  have a := pvok_r hok 106 0 (lo := 0) (hi := 7) rfl
  have t := ycl a.1
  have t1 := ycl hr
  have t2 := ycl (x := i) (by omega)
  have t3 := ycl (x := j) (by omega)
  refine ⟨s.1, ⟨by omega, by omega, by omega, by omega⟩, fun q => ?_⟩
  rw [s.2 q]
  unfold yrp
  rw [if_neg (by omega)]
theorem yPv_s {M X Z : pvM} {r h i i' j j' : Int32} (hok : pvOk M) (hX : pvOk X) (k : yPv M X r h i j) (hi : 0 ≤ i.toInt) (hl : i.toInt < j.toInt) (s : ySwp i j X Z) (hi3 : i' = i + 1) (hj3 : j' = j + -1) : yPv M Z r h i' j' := by
  have bj := zbnd j
  have v1 : (1 : Int32).toInt = 1 := by decide
  have v2 : (-1 : Int32).toInt = -1 := by decide
  have hi2 : i'.toInt = i.toInt + 1 := by rw [hi3, zadd _ _ (by omega) (by omega), v1]
  have hj2 : j'.toInt = j.toInt - 1 := by
    rw [hj3, zadd _ _ (by omega) (by omega), v2]
    omega
  obtain ⟨f, ⟨e, e1, e0, e3⟩, g⟩ := k
  have t2 := ycl hi
  have t3 := ycl (x := j) (by omega)
  have t4 := ycl (x := i') (by omega)
  have t5 := ycl (x := j') (by omega)
  refine ⟨fun q hq => (s.1 q hq).trans (f q hq), ⟨by omega, by omega, by omega, by omega⟩, fun q => ?_⟩
  rw [s.2 q]
  unfold ysw
  generalize hG : ysw (ypa M 114) (Int32.toNatClampNeg r) (Int32.toNatClampNeg h) = G at g
  have hG2 : (fun i => if i = Int32.toNatClampNeg h then ypa M 114 (Int32.toNatClampNeg r) else if i = Int32.toNatClampNeg r then ypa M 114 (Int32.toNatClampNeg h) else ypa M 114 i) = G := hG
  rw [hG2]
  by_cases c : q = Int32.toNatClampNeg j
  · rw [if_pos c, g, c]
    unfold yrp
    rw [if_neg (by omega), if_pos (by omega)]
    congr 1
    omega
  · rw [if_neg c]
    by_cases d : q = Int32.toNatClampNeg i
    · rw [if_pos d, g, d]
      unfold yrp
      rw [if_neg (by omega), if_pos (by omega)]
      congr 1
      omega
    · rw [if_neg d, g]
      unfold yrp
      by_cases z : (Int32.toNatClampNeg r + 1 ≤ q ∧ q < Int32.toNatClampNeg i) ∨ (Int32.toNatClampNeg r + 1 + (Int32.toNatClampNeg (M.1 106 0) - 1) < q + Int32.toNatClampNeg i ∧ q ≤ Int32.toNatClampNeg (M.1 106 0) - 1)
      · rw [if_pos z, if_pos (by omega)]
      · rw [if_neg z, if_neg (by omega)]
/-- what permute does -/
def yPm (r : Option pvV) (M X : pvM) : Prop := (∀ q : Nat, q ≠ 114 → X.1 q = M.1 q) ∧ match yri (ypa M 114) (Int32.toNatClampNeg (M.1 106 0) - 1) with
  | none => r = some (pvI 0) ∧ X = M
  | some k => r = some (pvI 1) ∧ ∀ i : Nat, ypa X 114 i = ynp (ypa M 114) (Int32.toNatClampNeg (M.1 106 0)) k i
theorem yPm_n {M : pvM} {r : Int32} (h : yPr M r) (h0 : r.toInt < 0) : yPm (some (pvI 0)) M M := ⟨fun _ _ => rfl, by rw [yPr_n h h0]; exact ⟨rfl, rfl⟩⟩
theorem yPm_y {M X : pvM} {r h i j : Int32} (hok : pvOk M) (a : yri (ypa M 114) (Int32.toNatClampNeg (M.1 106 0) - 1) = some (Int32.toNatClampNeg r)) (b : yhi (ypa M 114) (Int32.toNatClampNeg r) (Int32.toNatClampNeg (M.1 106 0) - 1) = Int32.toNatClampNeg h) (k : yPv M X r h i j) (hi : 0 ≤ i.toInt) (c : j.toInt ≤ i.toInt) : yPm (some (pvI 1)) M X := by
  obtain ⟨f, ⟨e, e1, e0, e3⟩, g⟩ := k
  have t2 := ycl hi
  have t3 := ycl e0
  refine ⟨f, ?_⟩
  rw [a]
  refine ⟨rfl, fun q => ?_⟩
  rw [g]
  unfold ynp
  rw [b]
  unfold yrp yrv
  by_cases z : Int32.toNatClampNeg r + 1 ≤ q ∧ q ≤ Int32.toNatClampNeg (M.1 106 0) - 1
  · rw [if_pos z]
    by_cases y : (Int32.toNatClampNeg r + 1 ≤ q ∧ q < Int32.toNatClampNeg i) ∨ (Int32.toNatClampNeg r + 1 + (Int32.toNatClampNeg (M.1 106 0) - 1) < q + Int32.toNatClampNeg i ∧ q ≤ Int32.toNatClampNeg (M.1 106 0) - 1)
    · rw [if_pos y]
    · rw [if_neg y, show Int32.toNatClampNeg r + 1 + (Int32.toNatClampNeg (M.1 106 0) - 1) - q = q by omega]
  · rw [if_neg z, if_neg (by omega)]
/-! BEST: the OPEN WINDOWS as bits, in their order -/
def yos (A : pvM) : Nat → Nat
  | 0 => 0
  | n + 1 => if A.1 (60 + n) 5 = 0 then yos A n ||| 2 ^ n else yos A n
theorem yos_lt (A : pvM) : ∀ n : Nat, yos A n < 2 ^ n
  | 0 => Nat.zero_lt_one
  | n + 1 => by
    have h := yos_lt A n
    have e : 2 ^ (n + 1) = 2 ^ n + 2 ^ n := by rw [Nat.pow_succ]; omega
    have p : 0 < 2 ^ n := Nat.two_pow_pos n
    show (if A.1 (60 + n) 5 = 0 then yos A n ||| 2 ^ n else yos A n) < 2 ^ (n + 1)
    split
    · exact Nat.or_lt_two_pow (by rw [e]; exact Nat.lt_of_lt_of_le h (Nat.le_add_right _ _)) (by rw [e]; exact Nat.lt_add_of_pos_right p)
    · rw [e]
      exact Nat.lt_of_lt_of_le h (Nat.le_add_right _ _)
theorem yos_128 {A : pvM} (hok : pvOk A) : yos A (yWn A) < 128 := Nat.lt_of_lt_of_le (yos_lt A _) (by
  have h := yWn_7 hok
  exact Nat.pow_le_pow_right (by decide) h)
theorem yos_b (A : pvM) (w : Nat) : ∀ n : Nat, (yos A n).testBit w = (decide (w < n) && decide (A.1 (60 + w) 5 = 0))
  | 0 => by simp [yos]
  | n + 1 => by
    have h := yos_b A w n
    show (if A.1 (60 + n) 5 = 0 then yos A n ||| 2 ^ n else yos A n).testBit w = _
    by_cases c : A.1 (60 + n) 5 = 0
    · rw [if_pos c, Nat.testBit_or, h, Nat.testBit_two_pow]
      by_cases d : n = w
      · subst d
        simp [c]
      · have e : (w < n + 1) ↔ (w < n) := by omega
        simp [d, e]
    · rw [if_neg c, h]
      by_cases d : n = w
      · subst d
        simp [c]
      · have e : (w < n + 1) ↔ (w < n) := by omega
        simp [e]
theorem yos_k {A B : pvM} : ∀ {n : Nat}, (∀ w : Nat, w < n → A.1 (60 + w) 5 = B.1 (60 + w) 5) → yos A n = yos B n
  | 0, _ => rfl
  | n + 1, h => by
    show (if A.1 (60 + n) 5 = 0 then yos A n ||| 2 ^ n else yos A n) = (if B.1 (60 + n) 5 = 0 then yos B n ||| 2 ^ n else yos B n)
    rw [h n (by omega), yos_k (fun w hw => h w (by omega))]
theorem yOb_t : ((List.range 128).all fun s => (List.range 7).all fun w => decide (nI s ||| ((1 : Int32) <<< (nI w &&& 31)) = nI (s ||| 2 ^ w))) = true := by decide +kernel
theorem yOb_s (A : pvM) : ∀ {n : Nat}, n ≤ 7 → yOb A n = nI (yos A n)
  | 0, _ => rfl
  | n + 1, h => by
    have e := yOb_s A (n := n) (by omega)
    show (if A.1 (60 + n) 5 = 0 then yOb A n ||| (1 <<< (nI n &&& 31)) else yOb A n) = nI (if A.1 (60 + n) 5 = 0 then yos A n ||| 2 ^ n else yos A n)
    split
    · rw [e]
      have b : yos A n < 128 := Nat.lt_of_lt_of_le (yos_lt A n) (Nat.pow_le_pow_right (by decide) (show n ≤ 7 by omega))
      have t := List.all_eq_true.mp (List.all_eq_true.mp yOb_t _ (List.mem_range.mpr b)) n (List.mem_range.mpr (by omega))
      exact of_decide_eq_true t
    · exact e
def yol (A : pvM) (n : Nat) : List Nat := (List.range n).filter fun w => decide (A.1 (60 + w) 5 = 0)
theorem yol_y {A : pvM} {n : Nat} (h : A.1 (60 + n) 5 = 0) : yol A (n + 1) = yol A n ++ [n] := by
  unfold yol
  rw [List.range_succ, List.filter_append]
  simp [h]
theorem yol_z {A : pvM} {n : Nat} (h : ¬ A.1 (60 + n) 5 = 0) : yol A (n + 1) = yol A n := by
  unfold yol
  rw [List.range_succ, List.filter_append]
  simp [h]
theorem yol_l (A : pvM) (n : Nat) : (yol A n).length ≤ n := Nat.le_trans (List.length_filter_le _ _) (by rw [List.length_range]; exact Nat.le_refl n)
theorem yol_f (A : pvM) (n : Nat) : ∀ k : Nat, ((List.range k).filter fun w => (yos A n).testBit w) = yol A (min k n)
  | 0 => by rw [Nat.zero_min]; rfl
  | k + 1 => by
    have h := yol_f A n k
    rw [List.range_succ, List.filter_append, h]
    by_cases c : k < n
    · rw [show min (k + 1) n = k + 1 by omega, show min k n = k by omega]
      by_cases d : A.1 (60 + k) 5 = 0
      · rw [yol_y d]
        simp [yos_b, c, d]
      · rw [yol_z d]
        simp [yos_b, d]
    · rw [show min (k + 1) n = n by omega, show min k n = n by omega]
      simp [yos_b, c]
theorem yol_7 {A : pvM} (hok : pvOk A) : ((List.range 7).filter fun w => (yos A (yWn A)).testBit w) = yol A (yWn A) := by
  have h := yWn_7 hok
  rw [yol_f, show min 7 (yWn A) = yWn A by omega]
theorem ypc_l {A : pvM} (hok : pvOk A) : ypc (yos A (yWn A)) = (yol A (yWn A)).length := by
  unfold ypc
  rw [List.countP_eq_length_filter, yol_7 hok]
theorem ypc_7 (s : Nat) : ypc s ≤ 7 := Nat.le_trans List.countP_le_length (by decide)
theorem yo0_e {A : pvM} (hok : pvOk A) {i : Nat} (hi : i < ypc (yos A (yWn A))) : yoT (yos A (yWn A)) 0 i = (yol A (yWn A)).getD i 0 := by
  have t := List.all_eq_true.mp (List.all_eq_true.mp yo0_t _ (List.mem_range.mpr (yos_128 hok))) i (List.mem_range.mpr hi)
  rw [yol_7 hok] at t
  exact Nat.eq_of_beq_eq_true t
theorem yft_5 {n : Nat} (h : n ≤ 5) : 0 < yft n ∧ yft n ≤ 120 := by
  rcases (by omega : n = 0 ∨ n = 1 ∨ n = 2 ∨ n = 3 ∨ n = 4 ∨ n = 5) with h | h | h | h | h | h <;> subst h <;> decide
theorem yck {s t : Nat} (hs : s < 128) (h5 : ypc s ≤ 5) (ht : t < yft (ypc s)) : (yri (yoT s t) (ypc s - 1) = none → t + 1 = yft (ypc s)) ∧ (∀ r : Nat, yri (yoT s t) (ypc s - 1) = some r → t + 1 < yft (ypc s) ∧ r + 1 < ypc s ∧ ∀ i : Nat, i < ypc s → ynp (yoT s t) (ypc s) r i = yoT s (t + 1) i) ∧ ∀ i : Nat, i < ypc s → s.testBit (yoT s t i) = true ∧ yoT s t i < 7 := by
  have a := List.all_eq_true.mp ychk_t s (List.mem_range.mpr hs)
  rw [Bool.or_eq_true, Bool.not_eq_true', List.all_eq_true] at a
  have a := (a.resolve_left (fun z => by rw [Nat.ble_eq_true_of_le h5] at z; exact Bool.noConfusion z)) t (List.mem_range.mpr ht)
  rw [Bool.and_eq_true, List.all_eq_true] at a
  refine ⟨fun e => ?_, fun r e => ?_, fun i hi => ?_⟩
  · have b := a.1
    unfold ychk at b
    rw [e] at b
    exact Nat.eq_of_beq_eq_true b
  · have b := a.1
    unfold ychk at b
    rw [e] at b
    simp only [Bool.and_eq_true, List.all_eq_true, List.mem_range] at b
    exact ⟨Nat.le_of_ble_eq_true b.1.1, Nat.le_of_ble_eq_true b.2, fun i hi => Nat.eq_of_beq_eq_true (b.1.2 i hi)⟩
  · have b := a.2 i (List.mem_range.mpr hi)
    rw [Bool.and_eq_true] at b
    exact ⟨b.1, Nat.le_of_ble_eq_true b.2⟩
/-- the first least -/
def yMn (f : Nat → Int) : Nat → Nat
  | 0 => 0
  | n + 1 => if f (n + 1) < f (yMn f n) then n + 1 else yMn f n
theorem yMn_l (f : Nat → Int) : ∀ n : Nat, yMn f n ≤ n
  | 0 => Nat.le_refl 0
  | n + 1 => by
    have := yMn_l f n
    show (if f (n + 1) < f (yMn f n) then n + 1 else yMn f n) ≤ n + 1
    split <;> omega
def yBf (M : pvM) (S : List yCl) (sd : Int32) (co : Int) (s t : Nat) : Int := yCp M S sd co (yoT s t) (M.1 8 4).toInt (ypc s)
def yGbe (k : Int32) (A : pvM) (S : List yCl) : Int := if k.toInt < -1 ∨ 4 < k.toInt then -1 else if 5 < ypc (yos A (yWn A)) then -9 else if (ypc (yos A (yWn A)) : Int) ≤ k.toInt then -5 else if k.toInt = -1 then yBf A S (A.1 8 3) (A.1 8 2).toInt (yos A (yWn A)) (yMn (yBf A S (A.1 8 3) (A.1 8 2).toInt (yos A (yWn A))) (yft (ypc (yos A (yWn A))) - 1)) else (yoT (yos A (yWn A)) (yMn (yBf A S (A.1 8 3) (A.1 8 2).toInt (yos A (yWn A))) (yft (ypc (yos A (yWn A))) - 1)) k.toInt.toNat : Nat)
theorem ybc_t : ((List.range 128).all fun s => decide ((((((((((nI s) - ((UInt32.toInt32 (Int32.toUInt32 (nI s) >>> (Int32.toUInt32 1 &&& Int32.toUInt32 31))) &&& 1431655765)) &&& 858993459) + ((UInt32.toInt32 (Int32.toUInt32 ((nI s) - ((UInt32.toInt32 (Int32.toUInt32 (nI s) >>> (Int32.toUInt32 1 &&& Int32.toUInt32 31))) &&& 1431655765)) >>> (Int32.toUInt32 2 &&& Int32.toUInt32 31))) &&& 858993459)) + (UInt32.toInt32 (Int32.toUInt32 ((((nI s) - ((UInt32.toInt32 (Int32.toUInt32 (nI s) >>> (Int32.toUInt32 1 &&& Int32.toUInt32 31))) &&& 1431655765)) &&& 858993459) + ((UInt32.toInt32 (Int32.toUInt32 ((nI s) - ((UInt32.toInt32 (Int32.toUInt32 (nI s) >>> (Int32.toUInt32 1 &&& Int32.toUInt32 31))) &&& 1431655765)) >>> (Int32.toUInt32 2 &&& Int32.toUInt32 31))) &&& 858993459)) >>> (Int32.toUInt32 4 &&& Int32.toUInt32 31)))) &&& 252645135) + (UInt32.toInt32 (Int32.toUInt32 ((((((nI s) - ((UInt32.toInt32 (Int32.toUInt32 (nI s) >>> (Int32.toUInt32 1 &&& Int32.toUInt32 31))) &&& 1431655765)) &&& 858993459) + ((UInt32.toInt32 (Int32.toUInt32 ((nI s) - ((UInt32.toInt32 (Int32.toUInt32 (nI s) >>> (Int32.toUInt32 1 &&& Int32.toUInt32 31))) &&& 1431655765)) >>> (Int32.toUInt32 2 &&& Int32.toUInt32 31))) &&& 858993459)) + (UInt32.toInt32 (Int32.toUInt32 ((((nI s) - ((UInt32.toInt32 (Int32.toUInt32 (nI s) >>> (Int32.toUInt32 1 &&& Int32.toUInt32 31))) &&& 1431655765)) &&& 858993459) + ((UInt32.toInt32 (Int32.toUInt32 ((nI s) - ((UInt32.toInt32 (Int32.toUInt32 (nI s) >>> (Int32.toUInt32 1 &&& Int32.toUInt32 31))) &&& 1431655765)) >>> (Int32.toUInt32 2 &&& Int32.toUInt32 31))) &&& 858993459)) >>> (Int32.toUInt32 4 &&& Int32.toUInt32 31)))) &&& 252645135) >>> (Int32.toUInt32 8 &&& Int32.toUInt32 31)))) + (UInt32.toInt32 (Int32.toUInt32 (((((((nI s) - ((UInt32.toInt32 (Int32.toUInt32 (nI s) >>> (Int32.toUInt32 1 &&& Int32.toUInt32 31))) &&& 1431655765)) &&& 858993459) + ((UInt32.toInt32 (Int32.toUInt32 ((nI s) - ((UInt32.toInt32 (Int32.toUInt32 (nI s) >>> (Int32.toUInt32 1 &&& Int32.toUInt32 31))) &&& 1431655765)) >>> (Int32.toUInt32 2 &&& Int32.toUInt32 31))) &&& 858993459)) + (UInt32.toInt32 (Int32.toUInt32 ((((nI s) - ((UInt32.toInt32 (Int32.toUInt32 (nI s) >>> (Int32.toUInt32 1 &&& Int32.toUInt32 31))) &&& 1431655765)) &&& 858993459) + ((UInt32.toInt32 (Int32.toUInt32 ((nI s) - ((UInt32.toInt32 (Int32.toUInt32 (nI s) >>> (Int32.toUInt32 1 &&& Int32.toUInt32 31))) &&& 1431655765)) >>> (Int32.toUInt32 2 &&& Int32.toUInt32 31))) &&& 858993459)) >>> (Int32.toUInt32 4 &&& Int32.toUInt32 31)))) &&& 252645135) + (UInt32.toInt32 (Int32.toUInt32 ((((((nI s) - ((UInt32.toInt32 (Int32.toUInt32 (nI s) >>> (Int32.toUInt32 1 &&& Int32.toUInt32 31))) &&& 1431655765)) &&& 858993459) + ((UInt32.toInt32 (Int32.toUInt32 ((nI s) - ((UInt32.toInt32 (Int32.toUInt32 (nI s) >>> (Int32.toUInt32 1 &&& Int32.toUInt32 31))) &&& 1431655765)) >>> (Int32.toUInt32 2 &&& Int32.toUInt32 31))) &&& 858993459)) + (UInt32.toInt32 (Int32.toUInt32 ((((nI s) - ((UInt32.toInt32 (Int32.toUInt32 (nI s) >>> (Int32.toUInt32 1 &&& Int32.toUInt32 31))) &&& 1431655765)) &&& 858993459) + ((UInt32.toInt32 (Int32.toUInt32 ((nI s) - ((UInt32.toInt32 (Int32.toUInt32 (nI s) >>> (Int32.toUInt32 1 &&& Int32.toUInt32 31))) &&& 1431655765)) >>> (Int32.toUInt32 2 &&& Int32.toUInt32 31))) &&& 858993459)) >>> (Int32.toUInt32 4 &&& Int32.toUInt32 31)))) &&& 252645135) >>> (Int32.toUInt32 8 &&& Int32.toUInt32 31)))) >>> (Int32.toUInt32 16 &&& Int32.toUInt32 31)))) &&& 63) = nI (ypc s))) = true := by decide +kernel
theorem ybc {A : pvM} (hok : pvOk A) {x : Int32} (e : x = yOb A (yWn A)) : ((((((((x - ((UInt32.toInt32 (Int32.toUInt32 x >>> (Int32.toUInt32 1 &&& Int32.toUInt32 31))) &&& 1431655765)) &&& 858993459) + ((UInt32.toInt32 (Int32.toUInt32 (x - ((UInt32.toInt32 (Int32.toUInt32 x >>> (Int32.toUInt32 1 &&& Int32.toUInt32 31))) &&& 1431655765)) >>> (Int32.toUInt32 2 &&& Int32.toUInt32 31))) &&& 858993459)) + (UInt32.toInt32 (Int32.toUInt32 (((x - ((UInt32.toInt32 (Int32.toUInt32 x >>> (Int32.toUInt32 1 &&& Int32.toUInt32 31))) &&& 1431655765)) &&& 858993459) + ((UInt32.toInt32 (Int32.toUInt32 (x - ((UInt32.toInt32 (Int32.toUInt32 x >>> (Int32.toUInt32 1 &&& Int32.toUInt32 31))) &&& 1431655765)) >>> (Int32.toUInt32 2 &&& Int32.toUInt32 31))) &&& 858993459)) >>> (Int32.toUInt32 4 &&& Int32.toUInt32 31)))) &&& 252645135) + (UInt32.toInt32 (Int32.toUInt32 (((((x - ((UInt32.toInt32 (Int32.toUInt32 x >>> (Int32.toUInt32 1 &&& Int32.toUInt32 31))) &&& 1431655765)) &&& 858993459) + ((UInt32.toInt32 (Int32.toUInt32 (x - ((UInt32.toInt32 (Int32.toUInt32 x >>> (Int32.toUInt32 1 &&& Int32.toUInt32 31))) &&& 1431655765)) >>> (Int32.toUInt32 2 &&& Int32.toUInt32 31))) &&& 858993459)) + (UInt32.toInt32 (Int32.toUInt32 (((x - ((UInt32.toInt32 (Int32.toUInt32 x >>> (Int32.toUInt32 1 &&& Int32.toUInt32 31))) &&& 1431655765)) &&& 858993459) + ((UInt32.toInt32 (Int32.toUInt32 (x - ((UInt32.toInt32 (Int32.toUInt32 x >>> (Int32.toUInt32 1 &&& Int32.toUInt32 31))) &&& 1431655765)) >>> (Int32.toUInt32 2 &&& Int32.toUInt32 31))) &&& 858993459)) >>> (Int32.toUInt32 4 &&& Int32.toUInt32 31)))) &&& 252645135) >>> (Int32.toUInt32 8 &&& Int32.toUInt32 31)))) + (UInt32.toInt32 (Int32.toUInt32 ((((((x - ((UInt32.toInt32 (Int32.toUInt32 x >>> (Int32.toUInt32 1 &&& Int32.toUInt32 31))) &&& 1431655765)) &&& 858993459) + ((UInt32.toInt32 (Int32.toUInt32 (x - ((UInt32.toInt32 (Int32.toUInt32 x >>> (Int32.toUInt32 1 &&& Int32.toUInt32 31))) &&& 1431655765)) >>> (Int32.toUInt32 2 &&& Int32.toUInt32 31))) &&& 858993459)) + (UInt32.toInt32 (Int32.toUInt32 (((x - ((UInt32.toInt32 (Int32.toUInt32 x >>> (Int32.toUInt32 1 &&& Int32.toUInt32 31))) &&& 1431655765)) &&& 858993459) + ((UInt32.toInt32 (Int32.toUInt32 (x - ((UInt32.toInt32 (Int32.toUInt32 x >>> (Int32.toUInt32 1 &&& Int32.toUInt32 31))) &&& 1431655765)) >>> (Int32.toUInt32 2 &&& Int32.toUInt32 31))) &&& 858993459)) >>> (Int32.toUInt32 4 &&& Int32.toUInt32 31)))) &&& 252645135) + (UInt32.toInt32 (Int32.toUInt32 (((((x - ((UInt32.toInt32 (Int32.toUInt32 x >>> (Int32.toUInt32 1 &&& Int32.toUInt32 31))) &&& 1431655765)) &&& 858993459) + ((UInt32.toInt32 (Int32.toUInt32 (x - ((UInt32.toInt32 (Int32.toUInt32 x >>> (Int32.toUInt32 1 &&& Int32.toUInt32 31))) &&& 1431655765)) >>> (Int32.toUInt32 2 &&& Int32.toUInt32 31))) &&& 858993459)) + (UInt32.toInt32 (Int32.toUInt32 (((x - ((UInt32.toInt32 (Int32.toUInt32 x >>> (Int32.toUInt32 1 &&& Int32.toUInt32 31))) &&& 1431655765)) &&& 858993459) + ((UInt32.toInt32 (Int32.toUInt32 (x - ((UInt32.toInt32 (Int32.toUInt32 x >>> (Int32.toUInt32 1 &&& Int32.toUInt32 31))) &&& 1431655765)) >>> (Int32.toUInt32 2 &&& Int32.toUInt32 31))) &&& 858993459)) >>> (Int32.toUInt32 4 &&& Int32.toUInt32 31)))) &&& 252645135) >>> (Int32.toUInt32 8 &&& Int32.toUInt32 31)))) >>> (Int32.toUInt32 16 &&& Int32.toUInt32 31)))) &&& 63) = nI (ypc (yos A (yWn A))) := by
  rw [yOb_s A (yWn_7 hok)] at e
  subst e
  exact of_decide_eq_true (List.all_eq_true.mp ybc_t _ (List.mem_range.mpr (yos_128 hok)))
/-! the class tries all orders -/
def yTrI (M X : pvM) (w : Int32) : Prop := w.toInt ≤ (M.1 8 1).toInt ∧ Int32.toNatClampNeg (X.1 106 0) = (yol M (Int32.toNatClampNeg w)).length ∧ ∀ i : Nat, i < (yol M (Int32.toNatClampNeg w)).length → ypa X 114 i = (yol M (Int32.toNatClampNeg w)).getD i 0
theorem yTrI_0 {M X : pvM} (hok : pvOk M) (c : X.1 106 0 = 0) : yTrI M X 0 := by
  have u0 : (0 : Int32).toInt = 0 := by decide
  have r := pvok_r hok 8 1 (lo := 0) (hi := 7) rfl
  refine ⟨by omega, by rw [c, ycl0]; rfl, fun i hi => ?_⟩
  rw [ycl0] at hi
  exact absurd hi (Nat.not_lt_zero _)
theorem yTrI_z {M X : pvM} {w w' : Int32} (hok : pvOk M) (h : yTrI M X w) (k : yLk M X) (hw : 0 ≤ w.toInt) (hl : ¬ X.1 8 1 ≤ w) (c : ¬ X.1 (pvbs 10 + Int32.toNatClampNeg w) 5 = 0) (h2 : w'.toInt = w.toInt + 1) : yTrI M X w' := by
  have r := h.1
  have r8 := pvok_r hok 8 1 (lo := 0) (hi := 7) rfl
  rw [k 8 (by decide), zi_le] at hl
  have t := ycl hw
  have t2 : Int32.toNatClampNeg w' = Int32.toNatClampNeg w + 1 := by
    have := ycl (x := w') (by omega)
    omega
  have pb : pvbs 10 = 60 := rfl
  by_cases c6 : Int32.toNatClampNeg w < 46
  · rw [pb, k (60 + Int32.toNatClampNeg w) (yfp_p (by omega) (by omega))] at c
    unfold yTrI
    rw [t2, yol_z c]
    exact ⟨by omega, h.2⟩
  · exfalso
    exact c6 (by omega)
theorem yTrI_y {M X Y : pvM} {w w' n2 : Int32} (hok : pvOk M) (hX : pvOk X) (h : yTrI M X w) (k : yLk M X) (hw : 0 ≤ w.toInt) (hl : ¬ X.1 8 1 ≤ w) (c : X.1 (pvbs 10 + Int32.toNatClampNeg w) 5 = 0) (h2 : w'.toInt = w.toInt + 1) (ap : zAp 106 114 122 7 w n2 X Y) (cX : Y.1 106 0 = (if X.1 106 0 < Int32.ofNat 7 then X.1 106 0 + 1 else X.1 106 0)) : yTrI M Y w' := by
  have r := pvok_r hok 8 1 (lo := 0) (hi := 7) rfl
  obtain ⟨h1, hc, hp⟩ := h
  rw [k 8 (by decide), zi_le] at hl
  have t := ycl hw
  have t2 : Int32.toNatClampNeg w' = Int32.toNatClampNeg w + 1 := by
    have := ycl (x := w') (by omega)
    omega
  have pb : pvbs 10 = 60 := rfl
  rw [pb, k (60 + Int32.toNatClampNeg w) (yfp_p (by omega) (by omega))] at c
  have l := yol_l M (Int32.toNatClampNeg w)
  have ry := pvok_r hX 106 0 (lo := 0) (hi := 7) rfl
  have ty := ycl ry.1
  have l7 : (X.1 106 0).toInt < 7 := by omega
  have o7 : (Int32.ofNat 7).toInt = 7 := by decide
  have u1 : (1 : Int32).toInt = 1 := by decide
  have ap := (ap.1 l7).1
  have e : (X.1 106 0 + 1).toInt = (X.1 106 0).toInt + 1 := by rw [zadd _ _ (by rw [u1]; omega) (by rw [u1]; omega), u1]
  have ey : Int32.toNatClampNeg (Y.1 106 0) = Int32.toNatClampNeg (X.1 106 0) + 1 := by
    rw [cX, if_pos (by rw [zi_lt, o7]; exact l7)]
    have := ycl (x := X.1 106 0 + 1) (by omega)
    omega
  unfold yTrI
  rw [t2, yol_y c, List.length_append]
  refine ⟨by omega, by rw [ey, hc]; rfl, fun i hi => ?_⟩
  have hi : i < (yol M (Int32.toNatClampNeg w)).length + 1 := hi
  unfold ypa at hp ⊢
  rw [ap i]
  by_cases q : i = Int32.toNatClampNeg (X.1 106 0)
  · rw [if_pos q, q, hc]
    simp
  · rw [if_neg q, hp i (by omega), List.getD_eq_getElem?_getD, List.getD_eq_getElem?_getD, List.getElem?_append_left (by omega)]
/-- looking ahead, all else as it was -/
def yKb (M X : pvM) : Prop := yLk M X ∧ X.1 13 = M.1 13 ∧ X.1 14 = M.1 14 ∧ X.1 5 1 = M.1 5 1 ∧ X.1 5 2 = M.1 5 2
theorem yKb_fr {L : List (Nat × Nat × Nat)} {M X : pvM} (hf : pvFr (pvfp L) M X) (hx : ((L.all fun a => bif Nat.beq a.1 0 then Nat.blt a.2.1 168 else !(Nat.beq a.2.1 99)) && (List.range 168).all fun a => yfp a || !pvfq L a) = true) (h : (!pvfq L 13 && !pvfq L 14 && !pvfp L 5 1 && !pvfp L 5 2) = true) : yKb M X := by
  simp only [Bool.and_eq_true, Bool.not_eq_true'] at h
  exact ⟨yLk_fr hf hx, funext fun b => hf 13 b (pvfq_p h.1.1.1 b), funext fun b => hf 14 b (pvfq_p h.1.1.2 b), hf 5 1 h.1.2, hf 5 2 h.2⟩
theorem yIm_b {M Y X : pvM} {s co : Int32} (hY : pvOk Y) (h : yIm M Y s co) (k : yKb Y X) : yIm M X s co := ⟨⟨yLk_t h.1.1 k.1, fun z => ⟨yWS_k hY (h.1.2 z).1 (yLk_K k.1) k.2.1 (fun s _ => congrFun k.2.2.1 s), by
  rw [k.2.2.1, k.2.2.2.1]
  exact (h.1.2 z).2⟩⟩, k.2.2.2.1.trans h.2.1, k.2.2.2.2.trans h.2.2⟩
def ySq (M X : pvM) (b : Nat) : Prop := yWS M → ¬ M.1 14 (Int32.toNatClampNeg (M.1 5 1)) = 0 → ∀ S : List yCl, zHC M (yHp M) S → (X.1 5 6).toInt = yBf M S (M.1 5 1) (M.1 5 2).toInt (yos M (yWn M)) (yMn (yBf M S (M.1 5 1) (M.1 5 2).toInt (yos M (yWn M))) b) ∧ ∀ i : Nat, i < ypc (yos M (yWn M)) → ypa X 115 i = yoT (yos M (yWn M)) (yMn (yBf M S (M.1 5 1) (M.1 5 2).toInt (yos M (yWn M))) b) i
def ySr (M X : pvM) (n : Nat) : Prop := n < yft (ypc (yos M (yWn M))) ∧ Int32.toNatClampNeg (X.1 106 0) = ypc (yos M (yWn M)) ∧ ∀ i : Nat, i < ypc (yos M (yWn M)) → ypa X 114 i = yoT (yos M (yWn M)) n i
def ySk (M X : pvM) (n : Int32) : Prop := ypc (yos M (yWn M)) ≤ 5 → ySr M X (Int32.toNatClampNeg n) ∧ (0 < Int32.toNatClampNeg n → ySq M X (Int32.toNatClampNeg n - 1))
def ySm (M X : pvM) (n : Int32) : Prop := ypc (yos M (yWn M)) ≤ 5 → ySr M X (Int32.toNatClampNeg n) ∧ ySq M X (Int32.toNatClampNeg n)
def ySb (M X : pvM) : Prop := ypc (yos M (yWn M)) ≤ 5 → ySq M X (yft (ypc (yos M (yWn M))) - 1)
theorem ySk_0 {M X : pvM} {w : Int32} (hok : pvOk M) (k : yLk M X) (h : yTrI M X w) (c : X.1 8 1 ≤ w) : ySk M X 0 := fun h5 => by
  rw [k 8 (by decide), zi_le] at c
  have e : M.1 8 1 = w := (zi_eq _ _).mpr (by have := h.1; omega)
  obtain ⟨_, hc, hp⟩ := h
  rw [← e] at hc hp
  rw [ycl0]
  refine ⟨⟨(yft_5 h5).1, by rw [hc, ypc_l hok]; rfl, fun i hi => ?_⟩, fun z => absurd z (Nat.lt_irrefl 0)⟩
  rw [yo0_e hok hi]
  rw [ypc_l hok] at hi
  exact hp i hi
theorem ySx {M X R : pvM} {n x : Int32} (hok : pvOk M) (k : yKb M X) (h5 : ypc (yos M (yWn M)) ≤ 5) (h : ySr M X (Int32.toNatClampNeg n)) (d : yRw X R (ypa X 114) (X.1 8 4).toInt (Int32.toNatClampNeg (X.1 106 0)) (some (pvI x))) (hW : yWS M) (hs : ¬ M.1 14 (Int32.toNatClampNeg (M.1 5 1)) = 0) {S : List yCl} (hS : zHC M (yHp M) S) : x.toInt = yBf M S (M.1 5 1) (M.1 5 2).toInt (yos M (yWn M)) (Int32.toNatClampNeg n) := by
  obtain ⟨ht, hc, hp⟩ := h
  obtain ⟨_, y, ey, q⟩ := d
  have ey := zpI ey
  subst ey
  rw [k.1 8 (by decide), hc] at q
  have im : yIm M X (M.1 5 1) (M.1 5 2) := yIm_b hok ⟨⟨yLk_r M, fun _ => ⟨hW, hs⟩⟩, rfl, rfl⟩ k
  exact yIm_q hok im q (fun i hi => ⟨hp i hi, by rw [hp i hi]; exact ((yck (yos_128 hok) h5 ht).2.2 i hi).2⟩) hW hS
theorem yMn_p {f : Nat → Int} {n : Nat} (h : 0 < n) : yMn f n = if f n < f (yMn f (n - 1)) then n else yMn f (n - 1) := by
  cases n with
  | zero => exact absurd h (Nat.lt_irrefl 0)
  | succ n => rfl
theorem ySm_y {M X R U W : pvM} {n x : Int32} (hok : pvOk M) (k : yKb M X) (h : ySk M X n) (d : yRw X R (ypa X 114) (X.1 8 4).toInt (Int32.toNatClampNeg (X.1 106 0)) (some (pvI x))) (c : n = 0 ∨ ¬ R.1 5 6 ≤ x) (e : U = pvu R 5 6 x) (w1 : ∀ b : Nat, W.1 106 b = U.1 106 b) (w2 : ∀ b : Nat, W.1 114 b = U.1 114 b) (w3 : W.1 5 6 = U.1 5 6) (z : zC1 115 114 (Int32.toNatClampNeg (U.1 106 0)) U W) : ySm M W n := fun h5 => by
  obtain ⟨hr, hq⟩ := h h5
  have f := d.1
  have e106 : W.1 106 0 = X.1 106 0 := by rw [w1, pvu_n e 106 0 (Or.inl (by decide)), f 106 (by decide)]
  have eU : ∀ b : Nat, U.1 114 b = X.1 114 b := fun b => by rw [pvu_n e 114 b (Or.inl (by decide)), f 114 (by decide)]
  have e114 : ypa W 114 = ypa X 114 := funext fun i => by
    unfold ypa
    rw [w2, eU]
  have e115 : ∀ i : Nat, i < ypc (yos M (yWn M)) → ypa W 115 i = yoT (yos M (yWn M)) (Int32.toNatClampNeg n) i := fun i hi => by
    have u : U.1 106 0 = X.1 106 0 := by rw [← w1, e106]
    have v := z i (by rw [u, hr.2.1]; exact hi)
    rw [← hr.2.2 i hi]
    unfold ypa
    rw [v, eU]
  have e5 : W.1 5 6 = x := w3.trans (pvu_s e)
  refine ⟨⟨hr.1, by rw [e106]; exact hr.2.1, fun i hi => by rw [e114]; exact hr.2.2 i hi⟩, fun hW hs S hS => ?_⟩
  have hx := ySx hok k h5 hr d hW hs hS
  have m : yMn (yBf M S (M.1 5 1) (M.1 5 2).toInt (yos M (yWn M))) (Int32.toNatClampNeg n) = Int32.toNatClampNeg n := by
    rcases Nat.eq_zero_or_pos (Int32.toNatClampNeg n) with n0 | n0
    · rw [n0]
      rfl
    · have c := c.resolve_left (fun q => by rw [q, ycl0] at n0; exact absurd n0 (Nat.lt_irrefl 0))
      have q := (hq n0 hW hs S hS).1
      rw [f 5 (by decide), zi_le] at c
      rw [yMn_p n0, if_pos (by omega)]
  rw [m, e5]
  exact ⟨hx, e115⟩
theorem ySm_n {M X R : pvM} {n x : Int32} (hok : pvOk M) (k : yKb M X) (h : ySk M X n) (d : yRw X R (ypa X 114) (X.1 8 4).toInt (Int32.toNatClampNeg (X.1 106 0)) (some (pvI x))) (h0 : 0 ≤ n.toInt) (c0 : ¬ n = 0) (c : R.1 5 6 ≤ x) : ySm M R n := fun h5 => by
  obtain ⟨hr, hq⟩ := h h5
  have f := d.1
  have e114 : ypa R 114 = ypa X 114 := funext fun i => by
    unfold ypa
    rw [f 114 (by decide)]
  have e115 : ypa R 115 = ypa X 115 := funext fun i => by
    unfold ypa
    rw [f 115 (by decide)]
  have n0 : 0 < Int32.toNatClampNeg n := by
    have t := ycl h0
    rcases Nat.eq_zero_or_pos (Int32.toNatClampNeg n) with q | q
    · exfalso
      have u0 : (0 : Int32).toInt = 0 := by decide
      exact c0 ((zi_eq _ _).mpr (by omega))
    · exact q
  refine ⟨⟨hr.1, by rw [f 106 (by decide)]; exact hr.2.1, fun i hi => by rw [e114]; exact hr.2.2 i hi⟩, fun hW hs S hS => ?_⟩
  have hx := ySx hok k h5 hr d hW hs hS
  have q := hq n0 hW hs S hS
  rw [f 5 (by decide), zi_le] at c
  have q1 := q.1
  rw [yMn_p n0, if_neg (by omega), e115, f 5 (by decide)]
  exact q
theorem ySr_r {M W Z : pvM} {n x : Int32} (hok : pvOk M) (h5 : ypc (yos M (yWn M)) ≤ 5) (h : ySr M W (Int32.toNatClampNeg n)) (p : yPm (some (pvI x)) W Z) : (x = 0 → Int32.toNatClampNeg n + 1 = yft (ypc (yos M (yWn M)))) ∧ (¬ x = 0 → ySr M Z (Int32.toNatClampNeg n + 1)) := by
  obtain ⟨ht, hc, hp⟩ := h
  obtain ⟨f, g⟩ := p
  have y := yck (yos_128 hok) h5 ht
  have er : yri (ypa W 114) (Int32.toNatClampNeg (W.1 106 0) - 1) = yri (yoT (yos M (yWn M)) (Int32.toNatClampNeg n)) (ypc (yos M (yWn M)) - 1) := by
    rw [hc]
    rcases Nat.eq_zero_or_pos (ypc (yos M (yWn M))) with q | q
    · rw [q]
      rfl
    · exact yri_c (fun i hi => hp i (by omega))
  rw [er] at g
  cases e : yri (yoT (yos M (yWn M)) (Int32.toNatClampNeg n)) (ypc (yos M (yWn M)) - 1) with
  | none =>
    rw [e] at g
    exact ⟨fun _ => y.1 e, fun z => absurd (zpI g.1) z⟩
  | some r =>
    rw [e] at g
    obtain ⟨a, b, c⟩ := y.2.1 r e
    refine ⟨fun z => ?_, fun _ => ⟨a, by rw [f 106 (by decide)]; exact hc, fun i hi => ?_⟩⟩
    · have q := zpI g.1
      rw [z] at q
      exact absurd q (by decide)
    · rw [g.2 i, hc, ynp_c b (fun j hj => hp j hj) i hi]
      exact c i hi
theorem ySk_s {M W Z : pvM} {n n' x : Int32} (hok : pvOk M) (h : ySm M W n) (p : yPm (some (pvI x)) W Z) (c : ¬ x = 0) (h0 : 0 ≤ n.toInt) (h2 : n'.toInt = n.toInt + 1) : ySk M Z n' := fun h5 => by
  obtain ⟨hr, hq⟩ := h h5
  have t := ycl h0
  have t2 : Int32.toNatClampNeg n' = Int32.toNatClampNeg n + 1 := by
    have := ycl (x := n') (by omega)
    omega
  rw [t2]
  refine ⟨(ySr_r hok h5 hr p).2 c, fun _ hW hs S hS => ?_⟩
  have q := hq hW hs S hS
  rw [Nat.add_sub_cancel]
  unfold ypa at q ⊢
  rw [p.1 5 (by decide), p.1 115 (by decide)]
  exact q
theorem ySb_e {M W Z : pvM} {n x : Int32} (hok : pvOk M) (h : ySm M W n) (p : yPm (some (pvI x)) W Z) (c : x = 0) : ySb M Z := fun h5 => by
  obtain ⟨hr, hq⟩ := h h5
  have e := (ySr_r hok h5 hr p).1 c
  rw [← e, Nat.add_sub_cancel]
  intro hW hs S hS
  have q := hq hW hs S hS
  unfold ypa at q ⊢
  rw [p.1 5 (by decide), p.1 115 (by decide)]
  exact q
theorem ySb_n {M X : pvM} {n : Int32} (h : ySk M X n) (c : 120 ≤ n.toInt) : ySb M X := fun h5 => by
  have t := ycl (x := n) (by omega)
  have a := (h h5).1.1
  have b := (yft_5 h5).2
  exact absurd a (by omega)
/-! best, the class -/
theorem yos_L {M Y : pvM} (hok : pvOk M) (k : yLk M Y) : yos Y (yWn Y) = yos M (yWn M) := by
  have w := yWn_7 hok
  rw [yLk_W k]
  exact yos_k (fun i hi => by rw [k (60 + i) (yfp_p (by omega) (by omega))])
theorem yGbe_q {M Y X : pvM} (hok : pvOk M) (hY : pvOk Y) (b : yBN M Y) (k : yKb Y X) (h : ySb Y X) (h5 : ypc (yos M (yWn M)) ≤ 5) : yIm M X (M.1 8 3) (M.1 8 2) ∧ (yWS M → ∀ S : List yCl, zHC M (yHp M) S → (X.1 5 6).toInt = yBf M S (M.1 8 3) (M.1 8 2).toInt (yos M (yWn M)) (yMn (yBf M S (M.1 8 3) (M.1 8 2).toInt (yos M (yWn M))) (yft (ypc (yos M (yWn M))) - 1)) ∧ ∀ i : Nat, i < ypc (yos M (yWn M)) → ypa X 115 i = yoT (yos M (yWn M)) (yMn (yBf M S (M.1 8 3) (M.1 8 2).toInt (yos M (yWn M))) (yft (ypc (yos M (yWn M))) - 1)) i) := by
  have im := yIm_B b
  refine ⟨yIm_b hY im k, fun hW S hS => ?_⟩
  have L := im.1.1
  have es := yos_L hok L
  unfold ySb at h
  rw [es] at h
  have q := h h5 (im.1.2 hW).1 (im.1.2 hW).2 S (yLk_C hok L hS)
  rw [es, im.2.1, im.2.2] at q
  have ef : ∀ t : Nat, t < yft (ypc (yos M (yWn M))) → yBf Y S (M.1 8 3) (M.1 8 2).toInt (yos M (yWn M)) t = yBf M S (M.1 8 3) (M.1 8 2).toInt (yos M (yWn M)) t := fun t ht => by
    unfold yBf
    rw [L 8 (by decide)]
    exact yCp_k hok L (fun i hi => ⟨rfl, ((yck (yos_128 hok) h5 ht).2.2 i hi).2⟩)
  have p := (yft_5 h5).1
  have em : ∀ n : Nat, n < yft (ypc (yos M (yWn M))) → yMn (yBf Y S (M.1 8 3) (M.1 8 2).toInt (yos M (yWn M))) n = yMn (yBf M S (M.1 8 3) (M.1 8 2).toInt (yos M (yWn M))) n := fun n => by
    induction n with
    | zero => exact fun _ => (show (0 : Nat) = 0 from rfl)
    | succ n ih =>
      intro hn
      have i := ih (by omega)
      have l := yMn_l (yBf M S (M.1 8 3) (M.1 8 2).toInt (yos M (yWn M))) n
      show (if _ then _ else _) = (if _ then _ else _)
      rw [i, ef _ hn, ef _ (by omega)]
  rw [em _ (by omega)] at q
  have l := yMn_l (yBf M S (M.1 8 3) (M.1 8 2).toInt (yos M (yWn M))) (yft (ypc (yos M (yWn M))) - 1)
  rw [ef _ (by omega)] at q
  exact q
theorem yGbe_1 {k x : Int32} {M : pvM} (h : k.toInt < -1 ∨ 4 < k.toInt) (e : x.toInt = -1) : yAn (yGbe k) (some (pvI x)) M M := yAn_n (fun S => by
  unfold yGbe
  rw [if_pos h, e])
theorem yGbe_9 {k x b : Int32} {M : pvM} (hok : pvOk M) (h : -1 ≤ k.toInt ∧ k.toInt ≤ 4) (c : b = nI (ypc (yos M (yWn M)))) (d : ¬ b ≤ 5) (e : x.toInt = -9) : yAn (yGbe k) (some (pvI x)) M M := yAn_n (fun S => by
  have p := ypc_7 (yos M (yWn M))
  have u5 : (5 : Int32).toInt = 5 := by decide
  rw [c, zi_le, nI_toInt (by omega)] at d
  unfold yGbe
  rw [if_neg (by omega), if_pos (by omega), e])
theorem yGbe_5 {k x b : Int32} {M : pvM} (hok : pvOk M) (h : -1 ≤ k.toInt ∧ k.toInt ≤ 4) (c : b = nI (ypc (yos M (yWn M)))) (d : b ≤ 5) (d2 : ¬ k < b) (e : x.toInt = -5) : yAn (yGbe k) (some (pvI x)) M M := yAn_n (fun S => by
  have p := ypc_7 (yos M (yWn M))
  have u5 : (5 : Int32).toInt = 5 := by decide
  rw [c, zi_le, nI_toInt (by omega)] at d
  rw [c, zi_lt, nI_toInt (by omega)] at d2
  unfold yGbe
  rw [if_neg (by omega), if_neg (by omega), if_pos (by omega), e])
theorem yGbe_c {k b : Int32} {M Y X : pvM} (hok : pvOk M) (hY : pvOk Y) (h : -1 ≤ k.toInt ∧ k.toInt ≤ 4) (c : b = nI (ypc (yos M (yWn M)))) (d : b ≤ 5) (d2 : k < b) (bn : yBN M Y) (kb : yKb Y X) (sb : ySb Y X) (e : k = -1) : yAn (yGbe k) (some (pvI (X.1 5 6))) M X := by
  have p := ypc_7 (yos M (yWn M))
  have u5 : (5 : Int32).toInt = 5 := by decide
  have u1 : (-1 : Int32).toInt = -1 := by decide
  have ek : k.toInt = -1 := by rw [e, u1]
  rw [c, zi_le, nI_toInt (by omega)] at d
  rw [c, zi_lt, nI_toInt (by omega)] at d2
  obtain ⟨im, q⟩ := yGbe_q hok hY bn kb sb (by omega)
  refine yAn_i im (fun hW S hS hB => ?_)
  unfold yGbe
  rw [if_neg (by omega), if_neg (by omega), if_neg (by omega), if_pos ek]
  exact (q hW S hS).1
theorem yGbe_w {k b : Int32} {M Y X : pvM} (hok : pvOk M) (hY : pvOk Y) (hX : pvOk X) (h : -1 ≤ k.toInt ∧ k.toInt ≤ 4) (c : b = nI (ypc (yos M (yWn M)))) (d : b ≤ 5) (d2 : k < b) (bn : yBN M Y) (kb : yKb Y X) (sb : ySb Y X) (e : ¬ k = -1) : yAn (yGbe k) (some (pvI (X.1 115 (Int32.toNatClampNeg k)))) M X := by
  have p := ypc_7 (yos M (yWn M))
  have u5 : (5 : Int32).toInt = 5 := by decide
  have u1 : (-1 : Int32).toInt = -1 := by decide
  rw [zi_eq, u1] at e
  rw [c, zi_le, nI_toInt (by omega)] at d
  rw [c, zi_lt, nI_toInt (by omega)] at d2
  obtain ⟨im, q⟩ := yGbe_q hok hY bn kb sb (by omega)
  have t := ycl (x := k) (by omega)
  refine yAn_i im (fun hW S hS hB => ?_)
  unfold yGbe
  rw [if_neg (by omega), if_neg (by omega), if_neg (by omega), if_neg e]
  have g := (q hW S hS).2 (Int32.toNatClampNeg k) (by omega)
  have r := pvok_r hX 115 (Int32.toNatClampNeg k) (lo := 0) (hi := 6) rfl
  have tr := ycl r.1
  unfold ypa at g
  rw [show k.toInt.toNat = Int32.toNatClampNeg k by omega, ← g]
  exact tr.symm
theorem yFq_ {L : List (Nat × Nat × Nat)} {M X : pvM} (hf : pvFr (pvfp L) M X) (q : Nat) (h : pvfq L q = false) (b : Nat) : X.1 q b = M.1 q b := hf q b (pvfq_p h b)
theorem yFc_ {L : List (Nat × Nat × Nat)} {M X : pvM} (hf : pvFr (pvfp L) M X) (q k : Nat) (h : pvfp L q k = false) : X.1 q k = M.1 q k := hf q k h
/-! an order is laid by its number -/
theorem ynI {x : Int32} (h : 0 ≤ x.toInt) : nI (Int32.toNatClampNeg x) = x := by
  have t := ycl h
  have b := zbnd x
  rw [zi_eq, nI_toInt (by omega)]
  omega
theorem ybt_t : ((List.range 128).all fun s => (List.range 7).all fun w => decide (((nI s >>> (nI w &&& 31)) &&& 1) = 1) == s.testBit w) = true := by decide +kernel
theorem ycr_t : ((List.range 128).all fun s => (List.range 7).all fun w => !s.testBit w || decide (nI s &&& (((1 : Int32) <<< (nI w &&& 31)) ^^^ (-1)) = nI (s - 2 ^ w))) = true := by decide +kernel
theorem yKbt {x w : Int32} (hx : 0 ≤ x.toInt ∧ x.toInt ≤ 127) (hw : 0 ≤ w.toInt ∧ w.toInt ≤ 6) : (((x >>> (w &&& 31)) &&& 1) = 1 ↔ (Int32.toNatClampNeg x).testBit (Int32.toNatClampNeg w) = true) := by
  have tx := ycl hx.1
  have tw := ycl hw.1
  have t := List.all_eq_true.mp (List.all_eq_true.mp ybt_t (Int32.toNatClampNeg x) (List.mem_range.mpr (by omega))) (Int32.toNatClampNeg w) (List.mem_range.mpr (by omega))
  rw [ynI hx.1, ynI hw.1] at t
  rw [← eq_of_beq t, decide_eq_true_iff]
theorem yKcr {x w : Int32} (hx : 0 ≤ x.toInt ∧ x.toInt ≤ 127) (hw : 0 ≤ w.toInt ∧ w.toInt ≤ 6) (h : (Int32.toNatClampNeg x).testBit (Int32.toNatClampNeg w) = true) : Int32.toNatClampNeg (x &&& ((1 <<< (w &&& 31)) ^^^ (-1))) = Int32.toNatClampNeg x - 2 ^ Int32.toNatClampNeg w := by
  have tx := ycl hx.1
  have tw := ycl hw.1
  have t := List.all_eq_true.mp (List.all_eq_true.mp ycr_t (Int32.toNatClampNeg x) (List.mem_range.mpr (by omega))) (Int32.toNatClampNeg w) (List.mem_range.mpr (by omega))
  rw [h] at t
  have t := of_decide_eq_true (show decide _ = true from t)
  rw [ynI hx.1, ynI hw.1] at t
  rw [t]
  generalize 2 ^ Int32.toNatClampNeg w = k
  have e := nI_toInt (n := Int32.toNatClampNeg x - k) (by omega)
  have u := ycl (x := nI (Int32.toNatClampNeg x - k)) (by omega)
  omega
theorem yzfc : ∀ n : Nat, n < 8 → zfc (n : Int) = (yft n : Int) := by decide
/-- all of the orders' numbers that there are -/
def yKlp (M : pvM) (n1 n2 : Int32) : Prop := Int32.toNatClampNeg (M.1 124 35) = ypc (Int32.toNatClampNeg n1) ∧ Int32.toNatClampNeg n2 < yft (ypc (Int32.toNatClampNeg n1))
def yPs (n1 n2 : Int32) : List Nat := yoP (ypc (Int32.toNatClampNeg n1)) (Int32.toNatClampNeg n1) (Int32.toNatClampNeg n2)
def yKla (X : pvM) (n1 n2 k : Int32) : Prop := ∀ i : Nat, i < Int32.toNatClampNeg k → ypa X 144 i = (yPs n1 n2).getD i 0
def yKI (M X : pvM) (n1 n2 left rest k : Int32) : Prop := yKlp M n1 n2 → (yPs n1 n2).drop (Int32.toNatClampNeg k) = yoP (ypc (Int32.toNatClampNeg n1) - Int32.toNatClampNeg k) (Int32.toNatClampNeg left) (Int32.toNatClampNeg rest) ∧ yKla X n1 n2 k
def yKJ (M X : pvM) (n1 n2 left rest k nth w : Int32) : Prop := yKlp M n1 n2 → (yPs n1 n2).drop (Int32.toNatClampNeg k) = yoW (Int32.toNatClampNeg left) (7 - Int32.toNatClampNeg w) (Int32.toNatClampNeg nth) (Int32.toNatClampNeg w) :: yoP (ypc (Int32.toNatClampNeg n1) - Int32.toNatClampNeg k - 1) (Int32.toNatClampNeg left - 2 ^ yoW (Int32.toNatClampNeg left) (7 - Int32.toNatClampNeg w) (Int32.toNatClampNeg nth) (Int32.toNatClampNeg w)) (Int32.toNatClampNeg rest) ∧ yKla X n1 n2 k
theorem yKI_0 (M : pvM) (n1 n2 : Int32) : yKI M M n1 n2 n1 n2 0 := fun _ => by
  rw [ycl0]
  exact ⟨rfl, fun i hi => by rw [ycl0] at hi; exact absurd hi (Nat.not_lt_zero _)⟩
theorem yLdm {r a : Int32} (hr : 0 ≤ r.toInt ∧ r.toInt ≤ 5040) (ha : 1 ≤ a.toInt) : Int32.toNatClampNeg (r / a) = Int32.toNatClampNeg r / Int32.toNatClampNeg a ∧ Int32.toNatClampNeg (r - r / a * a) = Int32.toNatClampNeg r % Int32.toNatClampNeg a := by
  have tr := ycl hr.1
  have ta := ycl (x := a) (by omega)
  have ba := zbnd a
  have e : nI (Int32.toNatClampNeg a) = a := ynI (by omega)
  have d := zdiv_p r (Int32.toNatClampNeg a) hr.1 (by omega) (by omega)
  rw [e, ← tr, ← Int.natCast_ediv] at d
  have q : Int32.toNatClampNeg r / Int32.toNatClampNeg a * Int32.toNatClampNeg a ≤ Int32.toNatClampNeg r := Nat.div_mul_le_self _ _
  have q0 : Int32.toNatClampNeg r / Int32.toNatClampNeg a ≤ Int32.toNatClampNeg r := Nat.div_le_self _ _
  have m := Nat.div_add_mod (Int32.toNatClampNeg r) (Int32.toNatClampNeg a)
  rw [Nat.mul_comm] at m
  have pm : (r / a).toInt * a.toInt = ((Int32.toNatClampNeg r / Int32.toNatClampNeg a * Int32.toNatClampNeg a : Nat) : Int) := by rw [d, ← ta, Int.natCast_mul]
  have z1 := zmul (r / a) a (by rw [pm]; omega) (by rw [pm]; omega)
  rw [pm] at z1
  have z2 := zsub r (r / a * a) (by rw [z1]; omega) (by rw [z1]; omega)
  rw [z1] at z2
  have q9 : (0 : Int) ≤ (Int32.toNatClampNeg r / Int32.toNatClampNeg a : Nat) := Int.natCast_nonneg _
  have t1 := ycl (x := r / a) (by rw [d]; exact q9)
  have t2 := ycl (x := r - r / a * a) (by rw [z2]; omega)
  refine ⟨Int.ofNat_inj.mp (t1.trans d), ?_⟩
  generalize Int32.toNatClampNeg r % Int32.toNatClampNeg a = m2 at m ⊢
  generalize Int32.toNatClampNeg r / Int32.toNatClampNeg a * Int32.toNatClampNeg a = m3 at q m z2
  omega
theorem yKJ_0 {M X : pvM} {n1 n2 left rest k a w : Int32} (h : yKI M X n1 n2 left rest k) (eX : X.1 124 35 = M.1 124 35) (hk : 0 ≤ k.toInt) (h7 : (X.1 124 35).toInt ≤ 7) (l : ¬ X.1 124 35 ≤ k) (hr : 0 ≤ rest.toInt ∧ rest.toInt ≤ 5040) (ha : a.toInt = zfc ((X.1 124 35).toInt - k.toInt - 1) ∧ 1 ≤ a.toInt ∧ a.toInt ≤ 720) (hw : w = 0) : yKJ M X n1 n2 left (rest - rest / a * a) k (rest / a) w := fun p => by
  obtain ⟨h1, h2⟩ := h p
  refine ⟨?_, h2⟩
  subst hw
  rw [zi_le] at l
  have tk := ycl hk
  have tw := ycl (x := X.1 124 35) (by omega)
  have pc := p.1
  rw [← eX] at pc
  obtain ⟨m, hm⟩ : ∃ m, ypc (Int32.toNatClampNeg n1) - Int32.toNatClampNeg k = m + 1 := ⟨ypc (Int32.toNatClampNeg n1) - Int32.toNatClampNeg k - 1, by omega⟩
  have em : (X.1 124 35).toInt - k.toInt - 1 = (m : Int) := by omega
  have fa : Int32.toNatClampNeg a = yft m := by
    have z := ha.1
    rw [em, yzfc m (by omega)] at z
    have t := ycl (x := a) (by omega)
    omega
  have d := yLdm hr ha.2.1
  rw [fa] at d
  rw [h1, hm, d.1, d.2, ycl0, Nat.add_sub_cancel]
  rfl
theorem yoW_s (s f nth w : Nat) : yoW s (f + 1) nth w = if s.testBit w && Nat.beq nth 0 then w else yoW s f (if s.testBit w then nth - 1 else nth) (w + 1) := rfl
theorem yKJ_c {M X : pvM} {n1 n2 left rest k nth w nth' w' : Int32} (h : yKJ M X n1 n2 left rest k nth w) (hw : 0 ≤ w.toInt ∧ w.toInt ≤ 6) (hn' : 0 ≤ nth'.toInt) (e2 : w'.toInt = w.toInt + 1) (g : ((Int32.toNatClampNeg left).testBit (Int32.toNatClampNeg w) && Nat.beq (Int32.toNatClampNeg nth) 0) = false) (e : (if (Int32.toNatClampNeg left).testBit (Int32.toNatClampNeg w) then Int32.toNatClampNeg nth - 1 else Int32.toNatClampNeg nth) = Int32.toNatClampNeg nth') : yKJ M X n1 n2 left rest k nth' w' := fun p => by
  obtain ⟨h1, h2⟩ := h p
  refine ⟨?_, h2⟩
  have tw := ycl hw.1
  have tw' := ycl (x := w') (by omega)
  have q : yoW (Int32.toNatClampNeg left) (7 - Int32.toNatClampNeg w) (Int32.toNatClampNeg nth) (Int32.toNatClampNeg w) = yoW (Int32.toNatClampNeg left) (7 - Int32.toNatClampNeg w') (Int32.toNatClampNeg nth') (Int32.toNatClampNeg w') := by
    rw [show 7 - Int32.toNatClampNeg w = (7 - Int32.toNatClampNeg w') + 1 by omega, yoW_s, g, e, show Int32.toNatClampNeg w + 1 = Int32.toNatClampNeg w' by omega]
    rfl
  rw [← q]
  exact h1
theorem yKJ_y {M X : pvM} {n1 n2 left rest k nth w nth' w' : Int32} (h : yKJ M X n1 n2 left rest k nth w) (hl : 0 ≤ left.toInt ∧ left.toInt ≤ 127) (hw : 0 ≤ w.toInt ∧ w.toInt ≤ 6) (c : ((left >>> (w &&& 31)) &&& 1) = 1) (hn : 0 < nth.toInt) (e1 : nth' = nth - 1) (e2 : w' = w + 1) : yKJ M X n1 n2 left rest k nth' w' := by
  have u1 : (1 : Int32).toInt = 1 := by decide
  have bn := zbnd nth
  have f1 : nth'.toInt = nth.toInt - 1 := by rw [e1, zsub _ _ (by omega) (by omega), u1]
  have f2 : w'.toInt = w.toInt + 1 := by rw [e2, zadd _ _ (by omega) (by omega), u1]
  have c := (yKbt hl hw).mp c
  have tn := ycl (x := nth) (by omega)
  have tn' := ycl (x := nth') (by omega)
  refine yKJ_c h hw (by omega) f2 ?_ ?_
  · rw [c, Bool.true_and]
    cases z : Nat.beq (Int32.toNatClampNeg nth) 0 with
    | false => rfl
    | true =>
      have := Nat.eq_of_beq_eq_true z
      omega
  · rw [c, if_pos rfl]
    omega
theorem yKJ_n {M X : pvM} {n1 n2 left rest k nth w nth' w' : Int32} (h : yKJ M X n1 n2 left rest k nth w) (hl : 0 ≤ left.toInt ∧ left.toInt ≤ 127) (hw : 0 ≤ w.toInt ∧ w.toInt ≤ 6) (c : ¬ ((left >>> (w &&& 31)) &&& 1) = 1) (hn : 0 ≤ nth.toInt) (e1 : nth' = nth - 0) (e2 : w' = w + 1) : yKJ M X n1 n2 left rest k nth' w' := by
  have u0 : (0 : Int32).toInt = 0 := by decide
  have u1 : (1 : Int32).toInt = 1 := by decide
  have bn := zbnd nth
  have f1 : nth'.toInt = nth.toInt - 0 := by rw [e1, zsub _ _ (by omega) (by omega), u0]
  have f2 : w'.toInt = w.toInt + 1 := by rw [e2, zadd _ _ (by omega) (by omega), u1]
  have c : (Int32.toNatClampNeg left).testBit (Int32.toNatClampNeg w) = false := by
    rw [yKbt hl hw] at c
    exact Bool.eq_false_iff.mpr c
  have tn := ycl hn
  have tn' := ycl (x := nth') (by omega)
  refine yKJ_c h hw (by omega) f2 ?_ ?_
  · rw [c, Bool.false_and]
  · rw [c, if_neg Bool.false_ne_true]
    omega
theorem yKI_s {M X Y : pvM} {n1 n2 left rest k nth w left' k' : Int32} (h : yKJ M X n1 n2 left rest k nth w) (hl : 0 ≤ left.toInt ∧ left.toInt ≤ 127) (hw : 0 ≤ w.toInt ∧ w.toInt ≤ 6) (c : ((left >>> (w &&& 31)) &&& 1) = 1) (hn : 0 ≤ nth.toInt ∧ nth.toInt ≤ 0) (hk : 0 ≤ k.toInt ∧ k.toInt ≤ 6) (e : Y = pvu X 144 (Int32.toNatClampNeg k) w) (e1 : left' = left &&& ((1 <<< (w &&& 31)) ^^^ (-1))) (e2 : k' = k + 1) : yKI M Y n1 n2 left' rest k' := fun p => by
  obtain ⟨h1, h2⟩ := h p
  have u1 : (1 : Int32).toInt = 1 := by decide
  have f2 : k'.toInt = k.toInt + 1 := by rw [e2, zadd _ _ (by omega) (by omega), u1]
  have c := (yKbt hl hw).mp c
  have tn := ycl hn.1
  have tw := ycl hw.1
  have tk := ycl hk.1
  have tk' := ycl (x := k') (by omega)
  have ek : Int32.toNatClampNeg k' = Int32.toNatClampNeg k + 1 := by omega
  have n0 : Int32.toNatClampNeg nth = 0 := by omega
  have q : yoW (Int32.toNatClampNeg left) (7 - Int32.toNatClampNeg w) (Int32.toNatClampNeg nth) (Int32.toNatClampNeg w) = Int32.toNatClampNeg w := by
    rw [show 7 - Int32.toNatClampNeg w = (6 - Int32.toNatClampNeg w) + 1 by omega, yoW_s, c, n0]
    rfl
  rw [q] at h1
  refine ⟨?_, fun i hi => ?_⟩
  · rw [ek, ← List.tail_drop, h1, e1, yKcr hl hw c, List.tail_cons, Nat.sub_sub]
  · rw [ek] at hi
    unfold ypa
    by_cases d : i = Int32.toNatClampNeg k
    · have g := congrArg (fun l : List Nat => l[0]?) h1
      have g : ((yPs n1 n2).drop (Int32.toNatClampNeg k))[0]? = some (Int32.toNatClampNeg w) := g
      rw [List.getElem?_drop, Nat.add_zero] at g
      rw [d, pvu_s e, List.getD_eq_getElem?_getD, g]
      rfl
    · rw [pvu_n e 144 i (Or.inr d)]
      exact h2 i (by omega)
def yKo (n1 n2 : Int32) (r : Option pvV) (M X : pvM) : Prop := (∀ q : Nat, q ≠ 144 → X.1 q = M.1 q) ∧ (Int32.toNatClampNeg (M.1 124 35) = ypc (Int32.toNatClampNeg n1) → if Int32.toNatClampNeg n2 < yft (ypc (Int32.toNatClampNeg n1)) then r = some (pvI 1) ∧ ∀ i : Nat, i < ypc (Int32.toNatClampNeg n1) → ypa X 144 i = yoT (Int32.toNatClampNeg n1) (Int32.toNatClampNeg n2) i else r = some (pvI 0))
theorem yKo_0 {M : pvM} {n1 n2 a : Int32} (hok : pvOk M) (hn : 0 ≤ n2.toInt) (z : a.toInt = zfc (M.1 124 35).toInt) (c : ¬ n2 < a) : yKo n1 n2 (some (pvI 0)) M M := ⟨fun _ _ => rfl, fun p => by
  have r := pvok_r hok 124 35 (lo := 0) (hi := 7) rfl
  have t := ycl r.1
  have tn := ycl hn
  rw [zi_lt, z, ← t, yzfc _ (by omega), p] at c
  rw [if_neg (by omega)]⟩
theorem yF144 {L : List (Nat × Nat × Nat)} {M X : pvM} (hf : pvFr (pvfp L) M X) (hx : ((L.all fun a => bif Nat.beq a.1 0 then Nat.blt a.2.1 168 else !(Nat.beq a.2.1 99)) && (List.range 168).all fun a => a == 144 || !pvfq L a) = true) : ∀ q : Nat, q ≠ 144 → X.1 q = M.1 q := fun q h1 => funext fun b => by
  rw [Bool.and_eq_true] at hx
  by_cases h : q < 168
  · have k := List.all_eq_true.mp hx.2 q (List.mem_range.mpr h)
    simp only [Bool.or_eq_true, beq_iff_eq, Bool.not_eq_true', h1, false_or] at k
    exact hf q b (pvfq_p k b)
  · exact hf q b (pvfq_p (pvfq_o hx.1 (by omega)) b)
theorem yKo_1 {M X : pvM} {n1 n2 a left rest k : Int32} (hok : pvOk M) (hn : 0 ≤ n2.toInt) (z : a.toInt = zfc (M.1 124 35).toInt) (c : n2 < a) (f : ∀ q : Nat, q ≠ 144 → X.1 q = M.1 q) (h : yKI M X n1 n2 left rest k) (hk : 0 ≤ k.toInt) (d : X.1 124 35 ≤ k) : yKo n1 n2 (some (pvI 1)) M X := ⟨f, fun p => by
  have r := pvok_r hok 124 35 (lo := 0) (hi := 7) rfl
  have t := ycl r.1
  have tn := ycl hn
  have tk := ycl hk
  rw [zi_lt, z, ← t, yzfc _ (by omega), p] at c
  rw [f 124 (by decide), zi_le] at d
  rw [if_pos (by omega)]
  exact ⟨rfl, fun i hi => (h ⟨p, by omega⟩).2 i (by omega)⟩⟩
