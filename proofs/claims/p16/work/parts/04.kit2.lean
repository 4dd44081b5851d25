def zhide (p : Prop) : Prop := p
theorem zshow {p : Prop} (h : zhide p) : p := h
/-! steps of a text, one behind the other: how many truths wait; a house's clauses -/
def zdep (f : Nat → Int32) (a : Nat) : Nat → Int
  | 0 => 0
  | k + 1 => zdep f a k + (if (f (a + k)).toInt = -33 then 0 else if (f (a + k)).toInt < 0 then -1 else 1)
def zok (f : Nat → Int32) (a n : Nat) : Prop := ∀ k, k < n → ((f (a + k)).toInt = -33 → 1 ≤ zdep f a k) ∧ (¬ (f (a + k)).toInt = -33 → (f (a + k)).toInt < 0 → 2 ≤ zdep f a k)
def zcl (sg fr to : Nat → Int32) (c : Nat) : Prop := ∃ a b : Nat, (fr c).toInt = (a : Int) ∧ (to c).toInt = (b : Int) ∧ a ≤ b ∧ b ≤ 600 ∧ b ≤ a + 100 ∧ zok sg a (b - a)
def zhs (sg fr to wd cl : Nat → Int32) (h : Nat) : Prop := ∀ c : Nat, 10 * h ≤ c → (c : Int) < 10 * (h : Int) + (cl h).toInt → (wd c).toInt < 2 → zcl sg fr to c
theorem zhs_at {sg fr to wd cl : Nat → Int32} {h c : Nat} (hz : zhs sg fr to wd cl h) (h1 : 10 * (h : Int) ≤ (c : Int)) (h2 : (c : Int) < 10 * (h : Int) + (cl h).toInt) (h3 : (wd c).toInt < 2) : zcl sg fr to c := hz c (by omega) h2 h3
theorem zdep_s (f : Nat → Int32) (a j : Nat) : ((f (a + j)).toInt = -33 → zdep f a (j + 1) = zdep f a j) ∧ (¬ (f (a + j)).toInt = -33 → (f (a + j)).toInt < 0 → zdep f a (j + 1) = zdep f a j - 1) ∧ (¬ (f (a + j)).toInt = -33 → ¬ (f (a + j)).toInt < 0 → zdep f a (j + 1) = zdep f a j + 1) := by
  refine ⟨fun h => ?_, fun h h2 => ?_, fun h h2 => ?_⟩
  · show zdep f a j + _ = _
    rw [if_pos h]; omega
  · show zdep f a j + _ = _
    rw [if_neg h, if_pos h2]; omega
  · show zdep f a j + _ = _
    rw [if_neg h, if_neg h2]
theorem zdep_le (f : Nat → Int32) (a : Nat) : ∀ j : Nat, zdep f a j ≤ (j : Int)
  | 0 => by show (0 : Int) ≤ _; omega
  | j + 1 => by
    have h := zdep_le f a j
    have h2 := zdep_s f a j
    by_cases c1 : (f (a + j)).toInt = -33
    · have := h2.1 c1; omega
    · by_cases c2 : (f (a + j)).toInt < 0
      · have := h2.2.1 c1 c2; omega
      · have := h2.2.2 c1 c2; omega
theorem znat {x : Int32} {n : Nat} (h : x.toInt = (n : Int)) : x.toNatClampNeg = n := by
  show x.toInt.toNat = n
  omega
theorem ztn (x : Int32) (h : 0 ≤ x.toInt) : (x.toNatClampNeg : Int) = x.toInt := by
  show (x.toInt.toNat : Int) = x.toInt
  omega
theorem zmul_b (x y : Int32) (a b : Int) (hx : 0 ≤ x.toInt ∧ x.toInt ≤ a) (hy : 0 ≤ y.toInt ∧ y.toInt ≤ b) (h : a * b ≤ 2147483647) : 0 ≤ (x * y).toInt ∧ (x * y).toInt ≤ a * b := by
  have h0 : 0 ≤ x.toInt * y.toInt := Int.mul_nonneg hx.1 hy.1
  have h1 : x.toInt * y.toInt ≤ a * b := Int.mul_le_mul hx.2 hy.2 hy.1 (by omega)
  rw [zmul x y (by omega) (by omega)]
  exact ⟨h0, h1⟩
theorem zrem_lt (x y : Int32) (h : ¬ y = 0) : Int.natAbs (x - x / y * y).toInt < Int.natAbs y.toInt := by
  have hY : y.toInt ≠ 0 := fun e => h ((zi_eq _ _).mpr (by rw [e]; decide))
  by_cases hy : y = -1
  · subst hy
    have e : (x - x / (-1) * (-1)).toInt = 0 := by
      by_cases hm : x = Int32.minValue
      · subst hm; decide
      · have hm2 : x.toInt ≠ -2147483648 := fun q => hm ((zi_eq _ _).mpr (by rw [q]; decide))
        have hb := zbnd x
        have m1 : (-1 : Int32).toInt = -1 := by decide
        have e1 : (x / (-1)).toInt = -x.toInt := by
          rw [Int32.toInt_div_of_ne_left x (-1) hm, m1, Int.tdiv_neg, Int.tdiv_one]
        have e2 : (x / (-1) * (-1)).toInt = x.toInt := by
          rw [zmul _ _ (by rw [e1, m1]; omega) (by rw [e1, m1]; omega), e1, m1]; omega
        rw [zsub _ _ (by rw [e2]; omega) (by rw [e2]; omega), e2]; omega
    rw [e]; decide
  · have e1 := Int32.toInt_div_of_ne_right x y hy
    have hb := zbnd x
    have t1 : x.toInt.tmod y.toInt + y.toInt * x.toInt.tdiv y.toInt = x.toInt := Int.tmod_add_mul_tdiv _ _
    rw [Int.mul_comm] at t1
    have t2 : Int.natAbs (x.toInt.tmod y.toInt) = Int.natAbs x.toInt % Int.natAbs y.toInt := Int.natAbs_tmod _ _
    have t3 : Int.natAbs x.toInt % Int.natAbs y.toInt < Int.natAbs y.toInt := Nat.mod_lt _ (by omega)
    have t4 : Int.natAbs x.toInt % Int.natAbs y.toInt ≤ Int.natAbs x.toInt := Nat.mod_le _ _
    have t5 : 0 ≤ x.toInt → 0 ≤ x.toInt.tmod y.toInt := fun q => Int.tmod_nonneg _ q
    have t6 : x.toInt ≤ 0 → x.toInt.tmod y.toInt ≤ 0 := fun q => by
      have u := Int.tmod_nonneg (a := -x.toInt) y.toInt (by omega)
      rw [Int.neg_tmod] at u
      omega
    generalize hP : x.toInt.tdiv y.toInt * y.toInt = P at t1
    generalize hR : x.toInt.tmod y.toInt = R at t1 t2 t5 t6
    have e2 : (x / y * y).toInt = P := by rw [zmul (x / y) y (by rw [e1, hP]; omega) (by rw [e1, hP]; omega), e1, hP]
    have e3 : (x - x / y * y).toInt = R := by rw [zsub x (x / y * y) (by rw [e2]; omega) (by rw [e2]; omega), e2]; omega
    rw [e3]
    omega
theorem zstk {p : Program} {l : Launch} {e : Env} {R : Room} {s : State} {m : MethodId} {args : Array Value} {below : List Frame} {meth : Method} {c : Code} {H : Heap} {locs : List Loc} {cells slots : Nat} {Q : State → Prop} {pc : Nat} {ls : Array Slot} {st st' : List Value} (h : st = st') (k : W p l e R s m args below meth c H locs cells slots Q (F0 m pc ls st')) : W p l e R s m args below meth c H locs cells slots Q (F0 m pc ls st) := h ▸ k
/-! sums and bounds without a search -/
theorem zadd_r (x y : Int32) {a b c d : Int} (lo hi : Int) (hx : a ≤ x.toInt ∧ x.toInt ≤ b) (hy : c ≤ y.toInt ∧ y.toInt ≤ d) (h1 : lo = a + c) (h2 : hi = b + d) (h3 : (-2147483648) ≤ lo) (h4 : hi ≤ 2147483647) : (x + y).toInt = x.toInt + y.toInt ∧ lo ≤ (x + y).toInt ∧ (x + y).toInt ≤ hi := by
  have e := zadd x y (by omega) (by omega)
  omega
theorem zadd_k (x k : Int32) {a b : Int} (n lo hi : Int) (hx : a ≤ x.toInt ∧ x.toInt ≤ b) (hk : k.toInt = n) (h1 : lo = a + n) (h2 : hi = b + n) (h3 : (-2147483648) ≤ lo) (h4 : hi ≤ 2147483647) : (x + k).toInt = x.toInt + n ∧ lo ≤ (x + k).toInt ∧ (x + k).toInt ≤ hi := by
  have e := zadd x k (by omega) (by omega)
  omega
theorem zadd_q (k x : Int32) {a b : Int} (n lo hi : Int) (hx : a ≤ x.toInt ∧ x.toInt ≤ b) (hk : k.toInt = n) (h1 : lo = a + n) (h2 : hi = b + n) (h3 : (-2147483648) ≤ lo) (h4 : hi ≤ 2147483647) : (k + x).toInt = n + x.toInt ∧ lo ≤ (k + x).toInt ∧ (k + x).toInt ≤ hi := by
  have e := zadd k x (by omega) (by omega)
  omega
theorem zsub_r (x y : Int32) {a b c d : Int} (lo hi : Int) (hx : a ≤ x.toInt ∧ x.toInt ≤ b) (hy : c ≤ y.toInt ∧ y.toInt ≤ d) (h1 : lo = a - d) (h2 : hi = b - c) (h3 : (-2147483648) ≤ lo) (h4 : hi ≤ 2147483647) : (x - y).toInt = x.toInt - y.toInt ∧ lo ≤ (x - y).toInt ∧ (x - y).toInt ≤ hi := by
  have e := zsub x y (by omega) (by omega)
  omega
theorem zsub_k (x k : Int32) {a b : Int} (n lo hi : Int) (hx : a ≤ x.toInt ∧ x.toInt ≤ b) (hk : k.toInt = n) (h1 : lo = a - n) (h2 : hi = b - n) (h3 : (-2147483648) ≤ lo) (h4 : hi ≤ 2147483647) : (x - k).toInt = x.toInt - n ∧ lo ≤ (x - k).toInt ∧ (x - k).toInt ≤ hi := by
  have e := zsub x k (by omega) (by omega)
  omega
theorem zsub_q (k x : Int32) {a b : Int} (n lo hi : Int) (hx : a ≤ x.toInt ∧ x.toInt ≤ b) (hk : k.toInt = n) (h1 : lo = n - b) (h2 : hi = n - a) (h3 : (-2147483648) ≤ lo) (h4 : hi ≤ 2147483647) : (k - x).toInt = n - x.toInt ∧ lo ≤ (k - x).toInt ∧ (k - x).toInt ≤ hi := by
  have e := zsub k x (by omega) (by omega)
  omega
theorem zr_lt_l {x y : Int32} {a b p q : Int} (h : Int) (c : x < y) (hx : a ≤ x.toInt ∧ x.toInt ≤ b) (hy : p ≤ y.toInt ∧ y.toInt ≤ q) (e : h = q - 1) : a ≤ x.toInt ∧ x.toInt ≤ h := by
  have u := (zi_lt _ _).mp c
  omega
theorem zr_lt_r {x y : Int32} {a b p q : Int} (l : Int) (c : x < y) (hy : a ≤ y.toInt ∧ y.toInt ≤ b) (hx : p ≤ x.toInt ∧ x.toInt ≤ q) (e : l = p + 1) : l ≤ y.toInt ∧ y.toInt ≤ b := by
  have u := (zi_lt _ _).mp c
  omega
theorem zr_nlt_l {x y : Int32} {a b p q : Int} (l : Int) (c : ¬ x < y) (hx : a ≤ x.toInt ∧ x.toInt ≤ b) (hy : p ≤ y.toInt ∧ y.toInt ≤ q) (e : l = p) : l ≤ x.toInt ∧ x.toInt ≤ b := by
  have u := (not_congr (zi_lt _ _)).mp c
  omega
theorem zr_nlt_r {x y : Int32} {a b p q : Int} (h : Int) (c : ¬ x < y) (hy : a ≤ y.toInt ∧ y.toInt ≤ b) (hx : p ≤ x.toInt ∧ x.toInt ≤ q) (e : h = q) : a ≤ y.toInt ∧ y.toInt ≤ h := by
  have u := (not_congr (zi_lt _ _)).mp c
  omega
theorem zr_le_l {x y : Int32} {a b p q : Int} (h : Int) (c : x ≤ y) (hx : a ≤ x.toInt ∧ x.toInt ≤ b) (hy : p ≤ y.toInt ∧ y.toInt ≤ q) (e : h = q) : a ≤ x.toInt ∧ x.toInt ≤ h := by
  have u := (zi_le _ _).mp c
  omega
theorem zr_le_r {x y : Int32} {a b p q : Int} (l : Int) (c : x ≤ y) (hy : a ≤ y.toInt ∧ y.toInt ≤ b) (hx : p ≤ x.toInt ∧ x.toInt ≤ q) (e : l = p) : l ≤ y.toInt ∧ y.toInt ≤ b := by
  have u := (zi_le _ _).mp c
  omega
theorem zr_nle_l {x y : Int32} {a b p q : Int} (l : Int) (c : ¬ x ≤ y) (hx : a ≤ x.toInt ∧ x.toInt ≤ b) (hy : p ≤ y.toInt ∧ y.toInt ≤ q) (e : l = p + 1) : l ≤ x.toInt ∧ x.toInt ≤ b := by
  have u := (not_congr (zi_le _ _)).mp c
  omega
theorem zr_nle_r {x y : Int32} {a b p q : Int} (h : Int) (c : ¬ x ≤ y) (hy : a ≤ y.toInt ∧ y.toInt ≤ b) (hx : p ≤ x.toInt ∧ x.toInt ≤ q) (e : h = q - 1) : a ≤ y.toInt ∧ y.toInt ≤ h := by
  have u := (not_congr (zi_le _ _)).mp c
  omega
theorem zr_eq_l {x y : Int32} {p q : Int} (c : x = y) (hy : p ≤ y.toInt ∧ y.toInt ≤ q) : p ≤ x.toInt ∧ x.toInt ≤ q := by
  rw [c]; exact hy
theorem zr_eq_r {x y : Int32} {p q : Int} (c : x = y) (hx : p ≤ x.toInt ∧ x.toInt ≤ q) : p ≤ y.toInt ∧ y.toInt ≤ q := by
  rw [← c]; exact hx
theorem zr_wide {x : Int32} {a b lo hi : Int} (hx : a ≤ x.toInt ∧ x.toInt ≤ b) (h1 : lo ≤ a) (h2 : b ≤ hi) : lo ≤ x.toInt ∧ x.toInt ≤ hi := ⟨Int.le_trans h1 hx.1, Int.le_trans hx.2 h2⟩
theorem zr_in {x : Int32} {a b : Int} {n : Nat} (hx : a ≤ x.toInt ∧ x.toInt ≤ b) (h1 : 0 ≤ a) (h2 : b < (n : Int)) : vp_in x n := vp_in_iff.mpr ⟨Int.le_trans h1 hx.1, Int.lt_of_le_of_lt hx.2 h2⟩
