/-! truths as bits -/
def ybt : List Bool → Nat
  | [] => 0
  | a :: s => 2 * ybt s + (if a then 1 else 0)
theorem ybt_lt : ∀ s : List Bool, ybt s < 2 ^ s.length
  | [] => by decide
  | a :: s => by
    have := ybt_lt s
    show 2 * ybt s + (if a then 1 else 0) < 2 ^ (s.length + 1)
    rw [Nat.pow_succ]
    split <;> omega
theorem ybt_31 {s : List Bool} (h : s.length ≤ 31) : ybt s < 2147483648 := Nat.lt_of_lt_of_le (ybt_lt s) (Nat.le_trans (Nat.pow_le_pow_right (by decide) h) (by decide))
theorem zbv {T : Int32} {n : Nat} (e : T = nI n) (h : n < 2147483648) : T.toBitVec.toNat = n := by
  rw [e]
  show (BitVec.ofNat 32 n).toNat = n
  rw [BitVec.toNat_ofNat]
  exact Nat.mod_eq_of_lt (by omega)
theorem zbe {x : Int32} {n : Nat} (h : n < 2147483648) (e : x.toBitVec.toNat = n) : x = nI n := by
  apply Int32.toBitVec_inj.mp
  apply BitVec.eq_of_toNat_eq
  rw [e, zbv rfl h]
theorem zbsh {T : Int32} {n : Nat} (e : T = nI n) (h : n < 2147483648) : (T >>> ((1 : Int32) &&& 31)).toBitVec.toNat = n / 2 := by
  have e1 : ((1 : Int32) &&& 31) = 1 := by decide
  rw [e1, Int32.toBitVec_shiftRight]
  have e2 : ((1 : Int32).toBitVec.smod 32) = 1#32 := by decide
  rw [e2]
  have hm : T.toBitVec.msb = false := by
    rw [BitVec.msb_eq_false_iff_two_mul_lt, zbv e h]; omega
  show (T.toBitVec.sshiftRight (1#32).toNat).toNat = n / 2
  rw [BitVec.sshiftRight_eq_of_msb_false hm, BitVec.toNat_ushiftRight, zbv e h]
  rfl
theorem zbsl {T : Int32} {n : Nat} (e : T = nI n) (h : n < 1073741824) : (T <<< ((1 : Int32) &&& 31)).toBitVec.toNat = 2 * n := by
  have e1 : ((1 : Int32) &&& 31) = 1 := by decide
  rw [e1, Int32.toBitVec_shiftLeft]
  have e2 : ((1 : Int32).toBitVec.smod 32) = 1#32 := by decide
  rw [e2]
  show (T.toBitVec <<< (1#32).toNat).toNat = 2 * n
  rw [BitVec.toNat_shiftLeft, zbv e (by omega), Nat.shiftLeft_eq]
  show n * 2 ^ 1 % 2 ^ 32 = 2 * n
  omega
theorem zb_and1 {T : Int32} {n : Nat} (e : T = nI n) (h : n < 2147483648) : (T &&& 1) = nI (n % 2) := by
  refine zbe (by omega) ?_
  rw [Int32.toBitVec_and, BitVec.toNat_and, zbv e h]
  exact Nat.and_one_is_mod n
theorem zn_ext {a b : Nat} (h1 : a / 2 = b / 2) (h2 : a % 2 = b % 2) : a = b := by omega
theorem zn_or {m c : Nat} (hc : c < 2) : m ||| c = 2 * (m / 2) + (if m % 2 = 1 ∨ c = 1 then 1 else 0) := by
  have d : (m ||| c) / 2 = m / 2 := by
    rw [Nat.or_div_two, show c / 2 = 0 by omega]
    exact Nat.or_zero _
  have r := Nat.or_mod_two_eq_one (a := m) (b := c)
  have l := Nat.mod_lt (m ||| c) (show 0 < 2 by decide)
  split
  · next k =>
    have := r.mpr (k.imp_right (by omega))
    omega
  · next k =>
    have : ¬ (m ||| c) % 2 = 1 := fun z => k ((r.mp z).imp_right (by omega))
    omega
theorem zn_and {m c : Nat} (hm : m < 2147483648) (hc : c < 2) : m &&& (4294967294 + c) = 2 * (m / 2) + (if m % 2 = 1 ∧ c = 1 then 1 else 0) := by
  have d : (m &&& (4294967294 + c)) / 2 = m / 2 := by
    rw [Nat.and_div_two, show (4294967294 + c) / 2 = 2 ^ 31 - 1 by omega]
    exact (Nat.and_two_pow_sub_one_eq_mod (m / 2) 31).trans (Nat.mod_eq_of_lt (by omega))
  have r := Nat.and_mod_two_eq_one (a := m) (b := 4294967294 + c)
  have l := Nat.mod_lt (m &&& (4294967294 + c)) (show 0 < 2 by decide)
  split
  · next k =>
    have := r.mpr ⟨k.1, by omega⟩
    omega
  · next k =>
    have : ¬ (m &&& (4294967294 + c)) % 2 = 1 := fun z => k ⟨(r.mp z).1, by have := (r.mp z).2; omega⟩
    omega
theorem zn_xor {m : Nat} : m ^^^ 1 = 2 * (m / 2) + (if m % 2 = 1 then 0 else 1) := by
  have d : (m ^^^ 1) / 2 = m / 2 := by
    rw [Nat.xor_div_two]
    exact Nat.xor_zero _
  have r := Nat.xor_mod_two_eq_one (a := m) (b := 1)
  have l := Nat.mod_lt (m ^^^ 1) (show 0 < 2 by decide)
  split
  · next k =>
    have : ¬ (m ^^^ 1) % 2 = 1 := fun z => (r.mp z) (by omega)
    omega
  · next k =>
    have := r.mpr (fun z => k (by omega))
    omega
theorem ybt_c (a : Bool) (s : List Bool) : ybt (a :: s) / 2 = ybt s ∧ (ybt (a :: s) % 2 = 1 ↔ a = true) := by
  show (2 * ybt s + (if a then 1 else 0)) / 2 = ybt s ∧ ((2 * ybt s + (if a then 1 else 0)) % 2 = 1 ↔ a = true)
  cases a
  · exact ⟨by show (2 * ybt s + 0) / 2 = ybt s; omega, fun z => absurd z (by show ¬ (2 * ybt s + 0) % 2 = 1; omega), fun z => absurd z (by decide)⟩
  · exact ⟨by show (2 * ybt s + 1) / 2 = ybt s; omega, fun _ => rfl, fun _ => by show (2 * ybt s + 1) % 2 = 1; omega⟩
theorem zb_not {T : Int32} {a : Bool} {s : List Bool} (h : (a :: s).length ≤ 31) (e : T = nI (ybt (a :: s))) : (T ^^^ 1) = nI (ybt ((!a) :: s)) := by
  have l := ybt_31 h
  have l2 : ybt ((!a) :: s) < 2147483648 := ybt_31 (by simpa using h)
  refine zbe l2 ?_
  rw [Int32.toBitVec_xor, BitVec.toNat_xor, zbv e l]
  show ybt (a :: s) ^^^ 1 = _
  rw [zn_xor]
  have c1 := ybt_c a s
  have c2 := ybt_c (!a) s
  rw [c1.1]
  cases a
  · rw [if_neg (fun z => absurd (c1.2.mp z) (by decide))]; rfl
  · rw [if_pos (c1.2.mpr rfl)]; rfl
theorem zb_or {T : Int32} {a b : Bool} {s : List Bool} (h : (a :: b :: s).length ≤ 31) (e : T = nI (ybt (a :: b :: s))) : ((T >>> ((1 : Int32) &&& 31)) ||| (T &&& 1)) = nI (ybt ((b || a) :: s)) := by
  have l := ybt_31 h
  have l2 : ybt ((b || a) :: s) < 2147483648 := ybt_31 (by simp at h ⊢; omega)
  refine zbe l2 ?_
  rw [Int32.toBitVec_or, BitVec.toNat_or, zbsh e l, zb_and1 e l, zbv rfl (by omega)]
  have c1 := ybt_c a (b :: s)
  have c2 := ybt_c b s
  rw [zn_or (by omega), c1.1, c2.1]
  cases a <;> cases b
  · rw [if_neg (fun z => z.elim (fun u => absurd (c2.2.mp u) (by decide)) (fun u => absurd (c1.2.mp u) (by decide)))]; rfl
  · rw [if_pos (Or.inl (c2.2.mpr rfl))]; rfl
  · rw [if_pos (Or.inr (c1.2.mpr rfl))]; rfl
  · rw [if_pos (Or.inl (c2.2.mpr rfl))]; rfl
theorem zb_and {T : Int32} {a b : Bool} {s : List Bool} (h : (a :: b :: s).length ≤ 31) (e : T = nI (ybt (a :: b :: s))) : ((T >>> ((1 : Int32) &&& 31)) &&& ((T &&& 1) ||| (-2))) = nI (ybt ((b && a) :: s)) := by
  have l := ybt_31 h
  have l2 : ybt ((b && a) :: s) < 2147483648 := ybt_31 (by simp at h ⊢; omega)
  refine zbe l2 ?_
  have m : ((T &&& 1) ||| (-2 : Int32)).toBitVec.toNat = 4294967294 + ybt (a :: b :: s) % 2 := by
    rw [zb_and1 e l]
    rcases Nat.mod_two_eq_zero_or_one (ybt (a :: b :: s)) with k | k <;> rw [k] <;> decide
  rw [Int32.toBitVec_and, BitVec.toNat_and, zbsh e l, m]
  have c1 := ybt_c a (b :: s)
  have c2 := ybt_c b s
  rw [zn_and (by omega) (by omega), c1.1, c2.1]
  cases a <;> cases b
  · rw [if_neg (fun z => absurd (c1.2.mp z.2) (by decide))]; rfl
  · rw [if_neg (fun z => absurd (c1.2.mp z.2) (by decide))]; rfl
  · rw [if_neg (fun z => absurd (c2.2.mp z.1) (by decide))]; rfl
  · rw [if_pos ⟨c2.2.mpr rfl, c1.2.mpr rfl⟩]; rfl
theorem zb_push {T p : Int32} {b : Bool} {s : List Bool} (h : s.length ≤ 30) (e : T = nI (ybt s)) (hp : p = if b = true then 1 else 0) : ((T <<< ((1 : Int32) &&& 31)) ||| p) = nI (ybt (b :: s)) := by
  have l2 : ybt (b :: s) < 2147483648 := ybt_31 (by simp; omega)
  have l : ybt s < 1073741824 := Nat.lt_of_lt_of_le (ybt_lt s) (Nat.le_trans (Nat.pow_le_pow_right (by decide) h) (by decide))
  refine zbe l2 ?_
  rw [Int32.toBitVec_or, BitVec.toNat_or, zbsl e l, hp]
  cases b
  · show 2 * ybt s ||| 0 = 2 * ybt s + 0
    rw [Nat.or_zero]; rfl
  · show 2 * ybt s ||| 1 = 2 * ybt s + 1
    rw [zn_or (by decide)]
    rw [if_pos (Or.inr rfl)]; omega
/-! the class: is a clause true -/
def yfc (M : pvM) (q : Nat) : Nat → Int32 := fun k => M.1 (q + 36) k
theorem zP_n {φ : Nat → Int32} {t : Int32} (h : t / 300 < 0 ∨ 6 ≤ t / 300) : (0 : Int32) = if zps9 φ t = true then 1 else 0 := by
  unfold zps9
  rw [if_pos h]; rfl
theorem zP_v {φ : Nat → Int32} {t : Int32} (v : Bool) (h : ¬ (t / 300 < 0 ∨ 6 ≤ t / 300)) (e : zcmp (t / 100 - t / 100 / 3 * 3) (φ (Int32.toNatClampNeg (t / 300))) (t - t / 100 * 100) = v) : (if v = true then (1 : Int32) else 0) = if zps9 φ t = true then 1 else 0 := by
  unfold zps9
  rw [if_neg h, e]
theorem zP_in {q : Nat} {t : Int32} (hq : pvln (q + 36) = 6) (a : ¬ t / 300 < 0) (b : t / 300 < Int32.ofNat (pvln (q + 36))) : ¬ (t / 300 < 0 ∨ 6 ≤ t / 300) := fun z => z.elim a (fun u => by
  rw [hq] at b
  have e : Int32.ofNat 6 = 6 := by decide
  rw [e] at b
  exact absurd b (Int32.not_lt.mpr u))
theorem zP_out {q : Nat} {t : Int32} (hq : pvln (q + 36) = 6) (b : ¬ t / 300 < Int32.ofNat (pvln (q + 36))) : t / 300 < 0 ∨ 6 ≤ t / 300 := Or.inr (by
  rw [hq] at b
  have e : Int32.ofNat 6 = 6 := by decide
  rw [e] at b
  exact Int32.not_lt.mp b)
theorem zc_0 {s a n : Int32} {v : Bool} (h : s = 0) (e : decide (a < n) = v) : zcmp s a n = v := by
  unfold zcmp
  rw [if_pos h, e]
theorem zc_1 {s a n : Int32} {v : Bool} (h0 : ¬ s = 0) (h : s = 1) (e : decide (a = n) = v) : zcmp s a n = v := by
  unfold zcmp
  rw [if_neg h0, if_pos h, e]
theorem zc_2 {s a n : Int32} {v : Bool} (h0 : ¬ s = 0) (h : ¬ s = 1) (e : decide (n < a) = v) : zcmp s a n = v := by
  unfold zcmp
  rw [if_neg h0, if_neg h, e]
/-- truths while a clause is gone through -/
def yTI (M : pvM) (q : Nat) (n1 n2 T i : Int32) : Prop := zbd (yfc M q) (zsl9 M q (Int32.toNatClampNeg n1) (Int32.toNatClampNeg n2)) [] → ∃ s : List Bool, T = nI (ybt s) ∧ s.length ≤ 31 ∧ zr9 (yfc M q) (zsl9 M q (Int32.toNatClampNeg i) (Int32.toNatClampNeg n2)) s = zr9 (yfc M q) (zsl9 M q (Int32.toNatClampNeg n1) (Int32.toNatClampNeg n2)) [] ∧ zbd (yfc M q) (zsl9 M q (Int32.toNatClampNeg i) (Int32.toNatClampNeg n2)) s
theorem yTI_0 (M : pvM) (q : Nat) (n1 n2 : Int32) : yTI M q n1 n2 0 n1 := fun h => ⟨[], rfl, by decide, rfl, h⟩
theorem zsl9_s {M : pvM} {q a b : Nat} (h : a < b) : zsl9 M q a b = M.1 (q + 27) a :: zsl9 M q (a + 1) b := by
  unfold zsl9
  rw [show b - a = (b - (a + 1)) + 1 by omega, List.range_succ_eq_map, List.map_cons, List.map_map]
  refine List.cons_eq_cons.mpr ⟨rfl, List.map_congr_left (fun j _ => ?_)⟩
  show M.1 (q + 27) (a + (j + 1)) = M.1 (q + 27) (a + 1 + j)
  rw [show a + (j + 1) = a + 1 + j by omega]
theorem yTI_s {M : pvM} {q : Nat} {n1 n2 T T' i i' : Int32} (h : yTI M q n1 n2 T i) (h0 : 0 ≤ i.toInt) (h1 : i.toInt < n2.toInt) (h2 : i'.toInt = i.toInt + 1) (k : ∀ s : List Bool, s.length ≤ 31 → zwf9 (M.1 (q + 27) (Int32.toNatClampNeg i)) s → T = nI (ybt s) → T' = nI (ybt (ze9 (yfc M q) (M.1 (q + 27) (Int32.toNatClampNeg i)) s)) ∧ (ze9 (yfc M q) (M.1 (q + 27) (Int32.toNatClampNeg i)) s).length ≤ 31) : yTI M q n1 n2 T' i' := fun hb => by
  obtain ⟨s, e1, e2, e3, e4⟩ := h hb
  have a1 : (Int32.toNatClampNeg i : Int) = i.toInt := by show ((i.toInt.toNat : Nat) : Int) = i.toInt; omega
  have a2 : (Int32.toNatClampNeg n2 : Int) = n2.toInt := by show ((n2.toInt.toNat : Nat) : Int) = n2.toInt; omega
  have a3 : Int32.toNatClampNeg i' = Int32.toNatClampNeg i + 1 := by
    have : (Int32.toNatClampNeg i' : Int) = i'.toInt := by show ((i'.toInt.toNat : Nat) : Int) = i'.toInt; omega
    omega
  rw [zsl9_s (show Int32.toNatClampNeg i < Int32.toNatClampNeg n2 by omega)] at e3 e4
  obtain ⟨k1, k2⟩ := k s e2 e4.1 e1
  rw [← a3] at e3 e4
  exact ⟨_, k1, k2, e3, e4.2⟩
theorem zT_or {φ : Nat → Int32} {t T : Int32} (c : t = -3) (s : List Bool) (l : s.length ≤ 31) (w : zwf9 t s) (e : T = nI (ybt s)) : ((T >>> ((1 : Int32) &&& 31)) ||| (T &&& 1)) = nI (ybt (ze9 φ t s)) ∧ (ze9 φ t s).length ≤ 31 := by
  subst c
  have w2 := w.2.2 (Or.inr rfl)
  match s, l, w2, e with
  | a :: b :: s, l, _, e => exact ⟨zb_or l e, by show (((b || a) :: s).length) ≤ 31; simp at l ⊢; omega⟩
  | [_], _, w2, _ => exact absurd w2 (by simp)
  | [], _, w2, _ => exact absurd w2 (by decide)
theorem zT_and {φ : Nat → Int32} {t T : Int32} (c : t = -2) (s : List Bool) (l : s.length ≤ 31) (w : zwf9 t s) (e : T = nI (ybt s)) : ((T >>> ((1 : Int32) &&& 31)) &&& ((T &&& 1) ||| (-2))) = nI (ybt (ze9 φ t s)) ∧ (ze9 φ t s).length ≤ 31 := by
  subst c
  have w2 := w.2.2 (Or.inl rfl)
  match s, l, w2, e with
  | a :: b :: s, l, _, e => exact ⟨zb_and l e, by show (((b && a) :: s).length) ≤ 31; simp at l ⊢; omega⟩
  | [_], _, w2, _ => exact absurd w2 (by simp)
  | [], _, w2, _ => exact absurd w2 (by decide)
theorem zT_not {φ : Nat → Int32} {t T : Int32} (c : t = -1) (s : List Bool) (l : s.length ≤ 31) (w : zwf9 t s) (e : T = nI (ybt s)) : (T ^^^ 1) = nI (ybt (ze9 φ t s)) ∧ (ze9 φ t s).length ≤ 31 := by
  subst c
  have w2 := w.2.1 rfl
  match s, l, w2, e with
  | a :: s, l, _, e => exact ⟨zb_not l e, by show (((!a) :: s).length) ≤ 31; simp at l ⊢; omega⟩
  | [], _, w2, _ => exact absurd w2 (by decide)
theorem zT_push {φ : Nat → Int32} {t T p x : Int32} (c3 : ¬ t = -3) (c2 : ¬ t = -2) (c1 : ¬ t = -1) (d : x = if zps9 φ t = true then 1 else 0) (hp : p = x) (s : List Bool) (l : s.length ≤ 31) (w : zwf9 t s) (e : T = nI (ybt s)) : ((T <<< ((1 : Int32) &&& 31)) ||| p) = nI (ybt (ze9 φ t s)) ∧ (ze9 φ t s).length ≤ 31 := by
  unfold ze9
  rw [if_neg c1, if_neg c2, if_neg c3]
  exact ⟨zb_push w.1 e (hp.trans d), by have := w.1; simp; omega⟩
theorem zone_x {x : Int32} {b : Bool} (d : x = if b = true then 1 else 0) (h : ¬ x = 0) : (1 : Int32) = x := by
  cases b
  · exact absurd d h
  · exact d.symm
def zvd (M : pvM) (q : Nat) (n1 n2 : Int32) : Bool := (zr9 (yfc M q) (zsl9 M q (Int32.toNatClampNeg n1) (Int32.toNatClampNeg n2)) []).headD false
def zTV (M : pvM) (q : Nat) (n1 n2 x : Int32) : Prop := zbd (yfc M q) (zsl9 M q (Int32.toNatClampNeg n1) (Int32.toNatClampNeg n2)) [] → x = if zvd M q n1 n2 = true then 1 else 0
theorem yTI_e {M : pvM} {q : Nat} {n1 n2 T i x : Int32} (h : yTI M q n1 n2 T i) (h0 : 0 ≤ i.toInt) (h1 : n2.toInt ≤ i.toInt) (hx : ((T &&& 1) = 1 → x = 1) ∧ (¬ (T &&& 1) = 1 → x = 0)) : zTV M q n1 n2 x := fun hb => by
  obtain ⟨s, e1, e2, e3, e4⟩ := h hb
  have e : zsl9 M q (Int32.toNatClampNeg i) (Int32.toNatClampNeg n2) = [] := by
    unfold zsl9
    rw [show Int32.toNatClampNeg n2 - Int32.toNatClampNeg i = 0 by show n2.toInt.toNat - i.toInt.toNat = 0; omega]; rfl
  rw [e] at e3
  unfold zvd
  rw [← e3]
  show x = if s.headD false = true then 1 else 0
  have a := zb_and1 e1 (ybt_31 e2)
  rw [a] at hx
  match s with
  | [] => exact hx.2 (by decide)
  | false :: s =>
    have c := ybt_c false s
    refine hx.2 (fun z => ?_)
    have : ybt (false :: s) % 2 = 0 := by have := Nat.mod_two_eq_zero_or_one (ybt (false :: s)); rcases this with k | k; exact k; exact absurd (c.2.mp k) (by decide)
    rw [this] at z
    exact absurd z (by decide)
  | true :: s =>
    have c := ybt_c true s
    refine hx.1 ?_
    rw [c.2.mpr rfl]; rfl
/-! the reference: is a clause true -/
def yph (w k f r s t : Int32) : Nat → Int32
  | 0 => w
  | 1 => k
  | 2 => f
  | 3 => r
  | 4 => s
  | _ => t
def y0f (M : pvM) (w : Int32) : Nat → Int32 := yph w (M.1 125 (Int32.toNatClampNeg w)) (M.1 127 (Int32.toNatClampNeg w)) (M.1 128 (Int32.toNatClampNeg w)) (M.1 124 4) (M.1 124 32)
def zPl (M : pvM) : List Bool → Prop
  | [] => True
  | a :: s => M.1 141 s.length = (if a = true then 1 else 0) ∧ zPl M s
theorem zPl_u {M X : pvM} {p : Nat} {v : Int32} (e : X = pvu M 141 p v) : ∀ {s : List Bool}, s.length ≤ p → zPl M s → zPl X s
  | [], _, _ => trivial
  | _ :: s, h, k => ⟨(pvu_n e 141 s.length (Or.inr (by rw [List.length_cons] at h; omega))).trans k.1, zPl_u e (by rw [List.length_cons] at h; omega) k.2⟩
theorem zPl_w {M X : pvM} {p : Nat} {v : Int32} {b : Bool} {s : List Bool} (e : X = pvu M 141 p v) (hp : p = s.length) (hv : v = if b = true then 1 else 0) (h : zPl M s) : zPl X (b :: s) := by
  subst hp
  exact ⟨(pvu_s e).trans hv, zPl_u e (Nat.le_refl _) h⟩
def yYI (M X : pvM) (c w n k : Int32) : Prop := (∀ a : Nat, a ≠ 141 → X.1 a = M.1 a) ∧ ∃ s : List Bool, n.toInt = (s.length : Int) ∧ zPl X s ∧ zr10 (y0f M w) (zsl10 M (Int32.toNatClampNeg k) (Int32.toNatClampNeg (M.1 137 (Int32.toNatClampNeg c)))) s = zr10 (y0f M w) (zsl10 M (Int32.toNatClampNeg (M.1 136 (Int32.toNatClampNeg c))) (Int32.toNatClampNeg (M.1 137 (Int32.toNatClampNeg c)))) []
theorem yYI_0 (M : pvM) (c w : Int32) : yYI M M c w 0 (M.1 136 (Int32.toNatClampNeg c)) := ⟨fun _ _ => rfl, [], rfl, trivial, rfl⟩
theorem zsl10_s {M : pvM} {a b : Nat} (h : a < b) : zsl10 M a b = M.1 138 a :: zsl10 M (a + 1) b := by
  unfold zsl10
  rw [show b - a = (b - (a + 1)) + 1 by omega, List.range_succ_eq_map, List.map_cons, List.map_map]
  refine List.cons_eq_cons.mpr ⟨rfl, List.map_congr_left (fun j _ => ?_)⟩
  show M.1 138 (a + (j + 1)) = M.1 138 (a + 1 + j)
  rw [show a + (j + 1) = a + 1 + j by omega]
theorem ycl {x : Int32} (h : 0 ≤ x.toInt) : (Int32.toNatClampNeg x : Int) = x.toInt := by show ((x.toInt.toNat : Nat) : Int) = x.toInt; omega
theorem y0f_e {M X : pvM} (h : ∀ a : Nat, a ≠ 141 → X.1 a = M.1 a) (w : Int32) : y0f X w = y0f M w := by
  unfold y0f
  rw [h 125 (by decide), h 127 (by decide), h 128 (by decide), h 124 (by decide)]
theorem yYI_s {M X X' : pvM} {c w n n' k k' : Int32} {p : Nat} {v : Int32} (h : yYI M X c w n k) (e : X' = pvu X 141 p v) (h0 : 0 ≤ k.toInt) (h1 : k.toInt < (X.1 137 (Int32.toNatClampNeg c)).toInt) (h2 : k'.toInt = k.toInt + 1) (st : ∀ s : List Bool, n.toInt = (s.length : Int) → zPl X s → n'.toInt = ((ze10 (y0f X w) (X.1 138 (Int32.toNatClampNeg k)) s).length : Int) ∧ zPl X' (ze10 (y0f X w) (X.1 138 (Int32.toNatClampNeg k)) s)) : yYI M X' c w n' k' := by
  obtain ⟨hm, s, e1, e2, e3⟩ := h
  obtain ⟨k1, k2⟩ := st s e1 e2
  rw [y0f_e hm, hm 138 (by decide)] at k1 k2
  rw [hm 137 (by decide)] at h1
  have a1 := ycl h0
  have a2 := ycl (x := M.1 137 (Int32.toNatClampNeg c)) (by omega)
  have a3 : Int32.toNatClampNeg k' = Int32.toNatClampNeg k + 1 := by
    have := ycl (x := k') (by omega)
    omega
  rw [zsl10_s (show Int32.toNatClampNeg k < Int32.toNatClampNeg (M.1 137 (Int32.toNatClampNeg c)) by omega), ← a3] at e3
  exact ⟨fun a ha => (funext fun b => pvu_n e a b (Or.inl ha)).trans (hm a ha), _, k1, k2, e3⟩
theorem yS_not {X X' : pvM} {φ : Nat → Int32} {t n v : Int32} (ct : t = -33) (e : X' = pvu X 141 (Int32.toNatClampNeg (n - 1)) v) (hv : v = if X.1 141 (Int32.toNatClampNeg (n - 1)) = 0 then 1 else 0) (h1 : 1 ≤ n.toInt) (hn : (n - 1).toInt = n.toInt - 1) (s : List Bool) (es : n.toInt = (s.length : Int)) (hp : zPl X s) : n.toInt = ((ze10 φ t s).length : Int) ∧ zPl X' (ze10 φ t s) := by
  subst ct
  match s, es, hp with
  | [], es, _ => simp at es; omega
  | a :: s, es, hp =>
    have p : Int32.toNatClampNeg (n - 1) = s.length := by
      have := ycl (x := n - 1) (by omega)
      rw [List.length_cons] at es
      omega
    refine ⟨es, zPl_w e p ?_ hp.2⟩
    rw [hv, p, hp.1]
    cases a <;> decide
theorem yS_and {X X' : pvM} {φ : Nat → Int32} {t n m v : Int32} (c1 : ¬ t = -33) (c2 : t < 0) (c3 : t = -38) (e : X' = pvu X 141 (Int32.toNatClampNeg (m - 1)) v) (hv : v = if X.1 141 (Int32.toNatClampNeg (m - 1)) = 0 then 0 else if X.1 141 (Int32.toNatClampNeg m) = 0 then 0 else 1) (h1 : 2 ≤ n.toInt) (hm : m.toInt = n.toInt - 1) (hn : (m - 1).toInt = m.toInt - 1) (s : List Bool) (es : n.toInt = (s.length : Int)) (hp : zPl X s) : m.toInt = ((ze10 φ t s).length : Int) ∧ zPl X' (ze10 φ t s) := by
  subst c3
  match s, es, hp with
  | [], es, _ => simp at es; omega
  | [_], es, _ => simp at es; omega
  | a :: b :: s, es, hp =>
    rw [List.length_cons, List.length_cons] at es
    have p1 : Int32.toNatClampNeg (m - 1) = s.length := by
      have := ycl (x := m - 1) (by omega)
      omega
    have p0 : Int32.toNatClampNeg m = (b :: s).length := by
      have := ycl (x := m) (by omega)
      rw [List.length_cons]
      omega
    refine ⟨by show m.toInt = (((b && a) :: s).length : Int); rw [List.length_cons]; omega, zPl_w (b := b && a) e p1 ?_ hp.2.2⟩
    rw [hv, p1, p0, hp.1, hp.2.1]
    cases a <;> cases b <;> decide
theorem yS_or {X X' : pvM} {φ : Nat → Int32} {t n m v : Int32} (c1 : ¬ t = -33) (c2 : t < 0) (c3 : ¬ t = -38) (e : X' = pvu X 141 (Int32.toNatClampNeg (m - 1)) v) (hv : v = if X.1 141 (Int32.toNatClampNeg (m - 1)) = 0 then (if X.1 141 (Int32.toNatClampNeg m) = 0 then 0 else 1) else 1) (h1 : 2 ≤ n.toInt) (hm : m.toInt = n.toInt - 1) (hn : (m - 1).toInt = m.toInt - 1) (s : List Bool) (es : n.toInt = (s.length : Int)) (hp : zPl X s) : m.toInt = ((ze10 φ t s).length : Int) ∧ zPl X' (ze10 φ t s) := by
  match s, es, hp with
  | [], es, _ => simp at es; omega
  | [_], es, _ => simp at es; omega
  | a :: b :: s, es, hp =>
    rw [List.length_cons, List.length_cons] at es
    have p1 : Int32.toNatClampNeg (m - 1) = s.length := by
      have := ycl (x := m - 1) (by omega)
      omega
    have p0 : Int32.toNatClampNeg m = (b :: s).length := by
      have := ycl (x := m) (by omega)
      rw [List.length_cons]
      omega
    have ee : ze10 φ t (a :: b :: s) = (b || a) :: s := by
      unfold ze10
      rw [if_neg c1, if_pos c2, if_neg c3]; rfl
    rw [ee]
    refine ⟨by rw [List.length_cons]; omega, zPl_w e p1 ?_ hp.2.2⟩
    rw [hv, p1, p0, hp.1, hp.2.1]
    cases a <;> cases b <;> decide
theorem yS_push {X X' : pvM} {φ : Nat → Int32} {t n m v : Int32} (c1 : ¬ t = -33) (c2 : ¬ t < 0) (e : X' = pvu X 141 (Int32.toNatClampNeg n) v) (hv : v = if zps10 φ t = true then 1 else 0) (h0 : 0 ≤ n.toInt) (hm : m.toInt = n.toInt + 1) (s : List Bool) (es : n.toInt = (s.length : Int)) (hp : zPl X s) : m.toInt = ((ze10 φ t s).length : Int) ∧ zPl X' (ze10 φ t s) := by
  have ee : ze10 φ t s = zps10 φ t :: s := by
    unfold ze10
    rw [if_neg c1, if_neg c2]
  rw [ee]
  have := ycl h0
  exact ⟨by rw [List.length_cons]; omega, zPl_w e (by omega) hv hp⟩
theorem yP_v {φ : Nat → Int32} {t x : Int32} (v : Bool) (d : x = zfa φ (t / 1000)) (e : zcmp (t / 100 - t / 100 / 10 * 10) x (t - t / 100 * 100) = v) : (if v = true then (1 : Int32) else 0) = if zps10 φ t = true then 1 else 0 := by
  unfold zps10
  rw [← d, e]
def yHo (M : pvM) (c w x : Int32) : Prop := ∀ v : Bool, zr10 (y0f M w) (zsl10 M (Int32.toNatClampNeg (M.1 136 (Int32.toNatClampNeg c))) (Int32.toNatClampNeg (M.1 137 (Int32.toNatClampNeg c)))) [] = [v] → x = if v = true then 1 else 0
theorem yYI_e {M X : pvM} {c w n k : Int32} (h : yYI M X c w n k) (h0 : 0 ≤ k.toInt) (h1 : (X.1 137 (Int32.toNatClampNeg c)).toInt ≤ k.toInt) : yHo M c w (X.1 141 (Int32.toNatClampNeg 0)) := fun v hv => by
  rw [show Int32.toNatClampNeg (0 : Int32) = 0 by decide]
  obtain ⟨hm, s, e1, e2, e3⟩ := h
  rw [hm 137 (by decide)] at h1
  have e : zsl10 M (Int32.toNatClampNeg k) (Int32.toNatClampNeg (M.1 137 (Int32.toNatClampNeg c))) = [] := by
    unfold zsl10
    rw [show Int32.toNatClampNeg (M.1 137 (Int32.toNatClampNeg c)) - Int32.toNatClampNeg k = 0 by show (M.1 137 (Int32.toNatClampNeg c)).toInt.toNat - k.toInt.toNat = 0; omega]; rfl
  rw [e, hv] at e3
  have e4 : s = [v] := e3
  rw [e4] at e2
  exact e2.1
theorem yfa_0 (φ : Nat → Int32) {f : Int32} (h : f = 0) : φ 0 = zfa φ f := by subst h; rfl
theorem yfa_1 (φ : Nat → Int32) {f : Int32} (h : f = 1) : φ 1 = zfa φ f := by subst h; rfl
theorem yfa_2 (φ : Nat → Int32) {f : Int32} (h : f = 2) : φ 2 = zfa φ f := by subst h; rfl
theorem yfa_3 (φ : Nat → Int32) {f : Int32} (h : f = 3) : φ 3 = zfa φ f := by subst h; rfl
theorem yfa_4 (φ : Nat → Int32) {f : Int32} (h : f = 4) : φ 4 = zfa φ f := by subst h; rfl
theorem yfa_5 (φ : Nat → Int32) {f : Int32} (h0 : ¬ f = 0) (h1 : ¬ f = 1) (h2 : ¬ f = 2) (h3 : ¬ f = 3) (h4 : ¬ f = 4) : φ 5 = zfa φ f := by
  unfold zfa
  rw [if_neg h0, if_neg h1, if_neg h2, if_neg h3, if_neg h4]
/-! RAIN of a house that S tells -/
theorem zfa_c {φ ψ : Nat → Int32} (h : ∀ k : Nat, k < 6 → φ k = ψ k) (f : Int32) : zfa φ f = zfa ψ f := by
  unfold zfa
  rw [h 0 (by decide), h 1 (by decide), h 2 (by decide), h 3 (by decide), h 4 (by decide), h 5 (by decide)]
theorem zr10_c {φ ψ : Nat → Int32} (h : ∀ k : Nat, k < 6 → φ k = ψ k) : ∀ (L : List Int32) (s : List Bool), zr10 φ L s = zr10 ψ L s
  | [], _ => rfl
  | t :: L, s => by
    have e : ze10 φ t s = ze10 ψ t s := by
      unfold ze10 zps10
      rw [zfa_c h]
    show zr10 φ L (ze10 φ t s) = zr10 ψ L (ze10 ψ t s)
    rw [e]
    exact zr10_c h L _
abbrev yCl := Nat × Int32 × List Int32
def ytr (φ : Nat → Int32) (L : List Int32) : Bool := (zr10 φ L []).headD false
def ytm (φ : Nat → Int32) (x : yCl) : Int := if x.1 < 2 then (if ytr φ x.2.2 = true then (zam x).toInt else 0) else 0
def ysum (φ : Nat → Int32) : List yCl → Int
  | [] => 0
  | x :: S => ytm φ x + ysum φ S
def yRn (φ : Nat → Int32) (S : List yCl) : Int := if 3 + ysum φ S < 0 then 0 else 3 + ysum φ S
theorem ysum_a (φ : Nat → Int32) : ∀ (A B : List yCl), ysum φ (A ++ B) = ysum φ A + ysum φ B
  | [], B => by show ysum φ B = 0 + ysum φ B; omega
  | x :: A, B => by
    show ytm φ x + ysum φ (A ++ B) = ytm φ x + ysum φ A + ysum φ B
    rw [ysum_a φ A B]; omega
theorem ysum_c {φ ψ : Nat → Int32} (h : ∀ k : Nat, k < 6 → φ k = ψ k) : ∀ S : List yCl, ysum φ S = ysum ψ S
  | [] => rfl
  | x :: S => by
    show ytm φ x + ysum φ S = ytm ψ x + ysum ψ S
    rw [ysum_c h S]
    unfold ytm ytr
    rw [zr10_c h]
theorem yRn_c {φ ψ : Nat → Int32} (h : ∀ k : Nat, k < 6 → φ k = ψ k) (S : List yCl) : yRn φ S = yRn ψ S := by
  unfold yRn
  rw [ysum_c h]
theorem ysum_z (φ : Nat → Int32) : ∀ S : List yCl, ysum φ (zcs S) = ysum φ S
  | [] => rfl
  | x :: S => by
    show ysum φ (List.filter (fun x => decide (x.1 < 2)) (x :: S)) = ytm φ x + ysum φ S
    rw [List.filter_cons]
    by_cases c : x.1 < 2
    · rw [if_pos (decide_eq_true c)]
      show ytm φ x + ysum φ (zcs S) = _
      rw [ysum_z φ S]
    · rw [if_neg (by simpa using c)]
      show ysum φ (zcs S) = _
      rw [ysum_z φ S]
      unfold ytm
      rw [if_neg c]; omega
theorem ysum_t (φ : Nat → Int32) {S : List yCl} {i : Nat} {x : yCl} (h : S[i]? = some x) : ysum φ (S.take (i + 1)) = ysum φ (S.take i) + ytm φ x := by
  rw [List.take_add_one, h, ysum_a]
  show _ + (ytm φ x + 0) = _
  omega
theorem ycl0 : Int32.toNatClampNeg (0 : Int32) = 0 := by decide
theorem ycl1 : Int32.toNatClampNeg (1 : Int32) = 1 := by decide
theorem ycl2 : Int32.toNatClampNeg (2 : Int32) = 2 := by decide
theorem ycl3 : Int32.toNatClampNeg (3 : Int32) = 3 := by decide
theorem ycl4 : Int32.toNatClampNeg (4 : Int32) = 4 := by decide
theorem ycl5 : Int32.toNatClampNeg (5 : Int32) = 5 := by decide
/-- what the tests look at -/
def yLn (q p : Nat) (n2 n3 n4 : Int32) (M X : pvM) : Prop := (∀ a : Nat, a ≠ q + 36 → X.1 a = M.1 a) ∧ ∀ k : Nat, k < 6 → X.1 (q + 36) k = yph n2 (M.1 p 0) (M.1 p 2) (M.1 p 3) n3 n4 k
theorem yLn_i {M A B C D E X : pvM} {q p : Nat} {n2 n3 v n4 : Int32} (hq : pvkl (q + 36) = 20) (hp : pvkl p = 3) (e0 : A = pvu M (q + 36) (Int32.toNatClampNeg 0) n2) (e1 : B = pvu A (q + 36) (Int32.toNatClampNeg 1) (A.1 p 0)) (e2 : C = pvu B (q + 36) (Int32.toNatClampNeg 2) (B.1 p 2)) (e3 : D = pvu C (q + 36) (Int32.toNatClampNeg 3) (C.1 p 3)) (e4 : E = pvu D (q + 36) (Int32.toNatClampNeg 4) n3) (e5 : X = pvu E (q + 36) (Int32.toNatClampNeg 5) v) (hv : v = n4) : yLn q p n2 n3 n4 M X := by
  rw [ycl0] at e0
  rw [ycl1] at e1
  rw [ycl2] at e2
  rw [ycl3] at e3
  rw [ycl4] at e4
  rw [ycl5] at e5
  subst hv
  have np : p ≠ q + 36 := fun z => by rw [← z, hp] at hq; exact absurd hq (by decide)
  have p1 : A.1 p 0 = M.1 p 0 := pvu_n e0 p 0 (Or.inl np)
  have p2 : B.1 p 2 = M.1 p 2 := (pvu_n e1 p 2 (Or.inl np)).trans (pvu_n e0 p 2 (Or.inl np))
  have p3 : C.1 p 3 = M.1 p 3 := (pvu_n e2 p 3 (Or.inl np)).trans ((pvu_n e1 p 3 (Or.inl np)).trans (pvu_n e0 p 3 (Or.inl np)))
  refine ⟨fun a ha => funext fun b => ?_, fun k hk => ?_⟩
  · exact (pvu_n e5 a b (Or.inl ha)).trans ((pvu_n e4 a b (Or.inl ha)).trans ((pvu_n e3 a b (Or.inl ha)).trans ((pvu_n e2 a b (Or.inl ha)).trans ((pvu_n e1 a b (Or.inl ha)).trans (pvu_n e0 a b (Or.inl ha))))))
  · match k, hk with
    | 0, _ => exact (pvu_n e5 _ 0 (Or.inr (by decide))).trans ((pvu_n e4 _ 0 (Or.inr (by decide))).trans ((pvu_n e3 _ 0 (Or.inr (by decide))).trans ((pvu_n e2 _ 0 (Or.inr (by decide))).trans ((pvu_n e1 _ 0 (Or.inr (by decide))).trans (pvu_s e0)))))
    | 1, _ => exact (pvu_n e5 _ 1 (Or.inr (by decide))).trans ((pvu_n e4 _ 1 (Or.inr (by decide))).trans ((pvu_n e3 _ 1 (Or.inr (by decide))).trans ((pvu_n e2 _ 1 (Or.inr (by decide))).trans ((pvu_s e1).trans p1))))
    | 2, _ => exact (pvu_n e5 _ 2 (Or.inr (by decide))).trans ((pvu_n e4 _ 2 (Or.inr (by decide))).trans ((pvu_n e3 _ 2 (Or.inr (by decide))).trans ((pvu_s e2).trans p2)))
    | 3, _ => exact (pvu_n e5 _ 3 (Or.inr (by decide))).trans ((pvu_n e4 _ 3 (Or.inr (by decide))).trans ((pvu_s e3).trans p3))
    | 4, _ => exact (pvu_n e5 _ 4 (Or.inr (by decide))).trans (pvu_s e4)
    | 5, _ => exact pvu_s e5
    | k + 6, z => exact absurd z (by omega)
theorem yLn_m {n : Int32} (h : n.toInt ≤ 99) : (if 99 < n then 99 else n) = n := if_neg (fun z => by
  have u := (zi_lt _ _).mp z
  have e : (99 : Int32).toInt = 99 := by decide
  omega)
/-- the class: rain while its clauses are gone through -/
def yRI (Y : pvM) (q : Nat) (rain first c : Int32) : Prop := ∀ S : List yCl, zHC Y q S → rain.toInt = 3 + ysum (yfc Y q) ((zcs S).take (Int32.toNatClampNeg c)) ∧ Int32.toNatClampNeg first = zlo9 Y q (Int32.toNatClampNeg c)
theorem yRI_0 (Y : pvM) (q : Nat) : yRI Y q 3 0 0 := fun S _ => by
  rw [ycl0]
  exact ⟨rfl, rfl⟩
theorem yRI_s {Y : pvM} {q : Nat} {rain first c x rain' c' : Int32} (h : yRI Y q rain first c) (h0 : 0 ≤ c.toInt) (h1 : c.toInt < (Y.1 q 2).toInt) (h2 : c'.toInt = c.toInt + 1) (d : zTV Y q first (Y.1 (q + 18) (Int32.toNatClampNeg c)) x) (hr : (x = 0 ∧ rain' = rain) ∨ (¬ x = 0 ∧ rain'.toInt = rain.toInt + (Y.1 (q + 9) (Int32.toNatClampNeg c)).toInt)) : yRI Y q rain' (Y.1 (q + 18) (Int32.toNatClampNeg c)) c' := fun S hS => by
  obtain ⟨r1, r2⟩ := h S hS
  have a1 := ycl h0
  have a3 : Int32.toNatClampNeg c' = Int32.toNatClampNeg c + 1 := by
    have := ycl (x := c') (by omega)
    omega
  have hl := hS.2.2.1
  have hi : Int32.toNatClampNeg c < (zcs S).length := by omega
  obtain ⟨e, he⟩ : ∃ e, (zcs S)[Int32.toNatClampNeg c]? = some e := ⟨_, List.getElem?_eq_getElem hi⟩
  obtain ⟨b1, -, -, b4⟩ := hS.2.2.2.2 _ _ he
  have l1 : zlo9 Y q (Int32.toNatClampNeg c + 1) = Int32.toNatClampNeg (Y.1 (q + 18) (Int32.toNatClampNeg c)) := by
    unfold zlo9
    rw [if_neg (by omega)]; rfl
  have hw : e.1 < 2 := by
    have := List.mem_of_getElem? he
    unfold zcs at this
    simpa using (List.mem_filter.mp this).2
  rw [l1, ← r2] at b4
  obtain ⟨v, hv⟩ := b4 (yfc Y q)
  obtain ⟨v1, v2, v3⟩ := hv []
  have d2 := d (v3 (by decide))
  unfold zvd at d2
  rw [v1] at d2
  have t : ytm (yfc Y q) e = if v = true then (Y.1 (q + 9) (Int32.toNatClampNeg c)).toInt else 0 := by
    unfold ytm ytr
    rw [if_pos hw, v2, b1]; rfl
  rw [a3, l1, ysum_t _ he, t]
  refine ⟨?_, rfl⟩
  have d3 : x = if v = true then 1 else 0 := d2
  rcases hr with ⟨k1, k2⟩ | ⟨k1, k2⟩
  · cases v
    · rw [if_neg (by decide), k2]; omega
    · rw [d3] at k1; exact absurd k1 (by decide)
  · cases v
    · exact absurd d3 k1
    · rw [if_pos rfl]; omega
/-- the answer of a house on a window -/
def yRO (M : pvM) (q : Nat) (n2 k f r n3 n4 x : Int32) : Prop := ∀ S : List yCl, zHC M q S → x.toInt = yRn (yph n2 k f r n3 n4) S
theorem yRO_e {M Y : pvM} {q p : Nat} {n2 n3 n4 rain first c : Int32} (hk : 15 ≤ q ∧ q ≤ 23) (l : yLn q p n2 n3 n4 M Y) (h : yRI Y q rain first c) (h1 : (Y.1 q 2).toInt ≤ c.toInt) (x : Int32) (hx : x = if rain < 0 then 0 else rain) : yRO M q n2 (M.1 p 0) (M.1 p 2) (M.1 p 3) n3 n4 x := fun S hS => by
  have hY : zHC Y q S := zHC_k hS (fun a b z => by rw [l.1 a (by rcases z with z | z | z | z <;> omega)])
  obtain ⟨r1, -⟩ := h S hY
  have a3 := hY.2.2.1
  have a4 := ycl (x := c) (by omega)
  rw [List.take_of_length_le (by omega), ysum_z, ysum_c (φ := yfc Y q) (ψ := yph n2 (M.1 p 0) (M.1 p 2) (M.1 p 3) n3 n4) (fun k hk => l.2 k hk)] at r1
  have u0 : (0 : Int32).toInt = 0 := by decide
  unfold yRn
  rw [hx, ← r1]
  by_cases z : rain < 0
  · rw [if_pos z, if_pos (by have := (zi_lt _ _).mp z; omega)]; exact u0
  · rw [if_neg z, if_neg (fun u => z ((zi_lt _ _).mpr (by omega)))]
/-! HARM of a kind by its RAIN; the sums -/
def yhb (k v s : Int32) (r : Int) : Int := if k = 2 then r / 2 else if k = 3 then 2 * r else if k = 4 then r else if k = 5 then (if s = v - v / 4 * 4 then r / 2 else 0) else if k = 6 then 2 * r else r
def yss (w k v f r s : Int32) (S : List yCl) : Nat → Int
  | 0 => 0
  | t + 1 => yss w k v f r s S t + yhb k v s (yRn (yph w k f r s (nI t)) S)
def yHp (M : pvM) : Nat := pvhp (M.1 8 8)
def ysM (M : pvM) (n : Int32) (S : List yCl) (t : Nat) : Int := yss n (M.1 (pvbs 10 + Int32.toNatClampNeg n) 0) (M.1 (pvbs 10 + Int32.toNatClampNeg n) 1) (M.1 (pvbs 10 + Int32.toNatClampNeg n) 2) (M.1 (pvbs 10 + Int32.toNatClampNeg n) 3) (M.1 5 1) S t
def yFr (M X : pvM) : Prop := ∀ a : Nat, a ≠ 13 → (a < 51 ∨ 59 < a) → X.1 a = M.1 a
theorem yFr_r (M : pvM) : yFr M M := fun _ _ _ => rfl
theorem yFr_t {M Y X : pvM} (h : yFr M Y) (k : yFr Y X) : yFr M X := fun a h1 h2 => (k a h1 h2).trans (h a h1 h2)
theorem yHp_r {M : pvM} (hok : pvOk M) : 15 ≤ yHp M ∧ yHp M ≤ 23 := by
  have r := pvok_r hok 8 8 (lo := 15) (hi := 23) rfl
  have := ycl (x := M.1 8 8) (by omega)
  unfold yHp pvhp
  omega
theorem yFr_h {M X : pvM} (h : yFr M X) : yHp X = yHp M := by
  unfold yHp
  rw [h 8 (by decide) (by decide)]
theorem yFr_c {M X : pvM} (hok : pvOk M) (h : yFr M X) {S : List yCl} (k : zHC M (yHp M) S) : zHC X (yHp M) S := by
  have r := yHp_r hok
  exact zHC_k k (fun a b z => by rw [h a (by rcases z with z | z | z | z <;> omega) (by rcases z with z | z | z | z <;> omega)])
def yUB (M : pvM) (n : Int32) : Int := 700 * Int32.toInt (M.1 5 1) + 100 * Int32.toInt n
def yUI (M X : pvM) (n sum there : Int32) : Prop := yFr M X ∧ (∀ i : Nat, ((i : Int) < yUB M n ∨ yUB M n + 100 ≤ (i : Int)) → X.1 13 i = M.1 13 i) ∧ ∀ S : List yCl, zHC M (yHp M) S → sum.toInt = ysM M n S (min (Int32.toNatClampNeg there) (Int32.toNatClampNeg (M.1 (yHp M) 1))) ∧ ∀ (j i : Nat), j < Int32.toNatClampNeg there → (i : Int) = yUB M n + j → (X.1 13 i).toInt = ysM M n S (min j (Int32.toNatClampNeg (M.1 (yHp M) 1)))
theorem yUI_0 (M : pvM) (n : Int32) : yUI M M n 0 0 := ⟨yFr_r M, fun _ _ => rfl, fun S _ => by
  rw [ycl0]
  exact ⟨by rw [Nat.zero_min]; rfl, fun j i h => absurd h (by omega)⟩⟩
theorem yUI_w {M X Y : pvM} {n sum there x : Int32} (h : yUI M X n sum there) (h0 : 0 ≤ there.toInt ∧ there.toInt ≤ 99) (hn : 0 ≤ yUB M n) (hx : x.toInt = 700 * Int32.toInt (X.1 5 1) + 100 * Int32.toInt n + max 0 (min there.toInt 99)) (e : Y = pvu X 13 (Int32.toNatClampNeg x) sum) : yFr M Y ∧ (∀ i : Nat, ((i : Int) < yUB M n ∨ yUB M n + 100 ≤ (i : Int)) → Y.1 13 i = M.1 13 i) ∧ ∀ S : List yCl, zHC M (yHp M) S → sum.toInt = ysM M n S (min (Int32.toNatClampNeg there) (Int32.toNatClampNeg (M.1 (yHp M) 1))) ∧ ∀ (j i : Nat), j < Int32.toNatClampNeg there + 1 → (i : Int) = yUB M n + j → (Y.1 13 i).toInt = ysM M n S (min j (Int32.toNatClampNeg (M.1 (yHp M) 1))) := by
  obtain ⟨a, b, c⟩ := h
  have e5 := congrFun (a 5 (by decide) (by decide)) 1
  rw [e5] at hx
  have u : (Int32.toNatClampNeg x : Int) = yUB M n + there.toInt := by
    rw [ycl (by unfold yUB at hn; omega)]
    unfold yUB
    omega
  have t := ycl h0.1
  refine ⟨fun q h1 h2 => (funext fun k => pvu_n e q k (Or.inl h1)).trans (a q h1 h2), fun i hi => (pvu_n e 13 i (Or.inr (by omega))).trans (b i hi), fun S hS => ?_⟩
  obtain ⟨c1, c2⟩ := c S hS
  refine ⟨c1, fun j i hj hi => ?_⟩
  by_cases d : j = Int32.toNatClampNeg there
  · subst d
    have : i = Int32.toNatClampNeg x := by omega
    subst this
    rw [pvu_s e]; exact c1
  · rw [pvu_n e 13 i (Or.inr (by omega))]
    exact c2 j i (by omega) hi
theorem yUI_a {M X Y : pvM} {n sum there there' x : Int32} (h : yUI M X n sum there) (h0 : 0 ≤ there.toInt ∧ there.toInt ≤ 99) (h2 : there'.toInt = there.toInt + 1) (hn : 0 ≤ yUB M n) (hx : x.toInt = 700 * Int32.toInt (X.1 5 1) + 100 * Int32.toInt n + max 0 (min there.toInt 99)) (e : Y = pvu X 13 (Int32.toNatClampNeg x) sum) (c : ¬ there < Y.1 (pvhp (Y.1 8 8)) 1) (hl : 0 ≤ (Y.1 (pvhp (Y.1 8 8)) 1).toInt) (hok : pvOk M) : yUI M Y n sum there' := by
  obtain ⟨a, b, d⟩ := yUI_w h h0 hn hx e
  have q := yHp_r hok
  have hp : pvhp (Y.1 8 8) = yHp M := yFr_h a
  rw [hp, a _ (by omega) (by omega)] at c hl
  have c2 := (not_congr (zi_lt _ _)).mp c
  have t := ycl h0.1
  have t2 : Int32.toNatClampNeg there' = Int32.toNatClampNeg there + 1 := by
    have := ycl (x := there') (by omega)
    omega
  have t3 := ycl hl
  refine ⟨a, b, fun S hS => ?_⟩
  obtain ⟨d1, d2⟩ := d S hS
  rw [t2]
  refine ⟨?_, d2⟩
  rw [d1, Nat.min_eq_right (by omega), Nat.min_eq_right (by omega)]
theorem yUI_b {M X Y Z : pvM} {n sum sum' there there' x xr xh : Int32} (h : yUI M X n sum there) (h0 : 0 ≤ there.toInt ∧ there.toInt ≤ 99) (h2 : there'.toInt = there.toInt + 1) (hn : 0 ≤ yUB M n) (hn6 : n.toInt ≤ 6) (hx : x.toInt = 700 * Int32.toInt (X.1 5 1) + 100 * Int32.toInt n + max 0 (min there.toInt 99)) (e : Y = pvu X 13 (Int32.toNatClampNeg x) sum) (c : there < Y.1 (pvhp (Y.1 8 8)) 1) (hok : pvOk M) (z : ∀ a : Nat, a ≠ pvhp (Y.1 8 8) + 36 → Z.1 a = Y.1 a) (dr : yRO Y (pvhp (Y.1 8 8)) n (Y.1 (pvbs 10 + Int32.toNatClampNeg n) 0) (Y.1 (pvbs 10 + Int32.toNatClampNeg n) 2) (Y.1 (pvbs 10 + Int32.toNatClampNeg n) 3) (Y.1 5 1) there xr) (dh : xh.toInt = yhb (Z.1 (pvbs 10 + Int32.toNatClampNeg n) 0) (Z.1 (pvbs 10 + Int32.toNatClampNeg n) 1) (Z.1 5 1) xr.toInt) (hs : sum'.toInt = sum.toInt + xh.toInt) : yUI M Z n sum' there' := by
  obtain ⟨a, b, d⟩ := yUI_w h h0 hn hx e
  have q := yHp_r hok
  have hp : pvhp (Y.1 8 8) = yHp M := yFr_h a
  have pb : pvbs 10 = 60 := rfl
  have p6 : Int32.toNatClampNeg n ≤ 6 := by show n.toInt.toNat ≤ 6; omega
  rw [hp] at c z dr
  rw [a _ (by omega) (by omega)] at c
  have c2 := (zi_lt _ _).mp c
  have zf : yFr Y Z := fun k h1 h2 => z k (by omega)
  have t := ycl h0.1
  have t2 : Int32.toNatClampNeg there' = Int32.toNatClampNeg there + 1 := by
    have := ycl (x := there') (by omega)
    omega
  have t3 := ycl (x := M.1 (yHp M) 1) (by omega)
  refine ⟨yFr_t a zf, fun i hi => by rw [z 13 (by omega)]; exact b i hi, fun S hS => ?_⟩
  obtain ⟨d1, d2⟩ := d S hS
  rw [t2]
  refine ⟨?_, fun j i hj hi => by rw [z 13 (by omega)]; exact d2 j i hj hi⟩
  have hY := yFr_c hok a hS
  have r := dr S hY
  rw [zf _ (by omega) (by omega), zf 5 (by decide) (by decide), a _ (by omega) (by omega), a 5 (by decide) (by decide)] at dh
  rw [a _ (by omega) (by omega), a 5 (by decide) (by decide)] at r
  rw [hs, dh, d1, r, Nat.min_eq_left (by omega), Nat.min_eq_left (by omega)]
  have tn : there = nI (Int32.toNatClampNeg there) := (zi_eq _ _).mpr (by rw [nI_toInt (by omega)]; omega)
  show ysM M n S (Int32.toNatClampNeg there) + _ = ysM M n S (Int32.toNatClampNeg there) + yhb _ _ _ (yRn (yph n _ _ _ _ (nI (Int32.toNatClampNeg there))) S)
  rw [← tn]
/-- what a sum is behind its making -/
def ySU (M X : pvM) (n : Int32) : Prop := yFr M X ∧ (∀ i : Nat, ((i : Int) < yUB M n ∨ yUB M n + 100 ≤ (i : Int)) → X.1 13 i = M.1 13 i) ∧ ∀ S : List yCl, zHC M (yHp M) S → ∀ (j i : Nat), j < 100 → (i : Int) = yUB M n + j → (X.1 13 i).toInt = ysM M n S (min j (Int32.toNatClampNeg (M.1 (yHp M) 1)))
theorem ySU_i {M X : pvM} {n sum there : Int32} (h : yUI M X n sum there) (h1 : 100 ≤ there.toInt) : ySU M X n := ⟨h.1, h.2.1, fun S hS j i hj hi => (h.2.2 S hS).2 j i (by have := ycl (x := there) (by omega); omega) hi⟩
/-! what is summed is right -/
def yWs1 (M : pvM) (s w : Nat) : Prop := ∀ S : List yCl, zHC M (yHp M) S → ∀ (j i : Nat), j < 100 → i = 700 * s + 100 * w + j → (M.1 13 i).toInt = yss (nI w) (M.1 (60 + w) 0) (M.1 (60 + w) 1) (M.1 (60 + w) 2) (M.1 (60 + w) 3) (nI s) S (min j (Int32.toNatClampNeg (M.1 (yHp M) 1)))
def yWS (M : pvM) : Prop := ∀ s : Nat, s < 4 → ¬ M.1 14 s = 0 → ∀ w : Nat, (w : Int) < (M.1 8 1).toInt → yWs1 M s w
def yWk (M X : pvM) : Prop := yWS M → yWS X
def yKs (M X : pvM) : Prop := X.1 8 1 = M.1 8 1 ∧ X.1 8 8 = M.1 8 8 ∧ (∀ a b : Nat, 15 ≤ a → a < 51 → X.1 a b = M.1 a b) ∧ ∀ w b : Nat, w < 7 → b < 4 → X.1 (60 + w) b = M.1 (60 + w) b
theorem yKs_h {M X : pvM} (k : yKs M X) : yHp X = yHp M := by
  unfold yHp
  rw [k.2.1]
theorem yWs1_k {M X : pvM} {s w : Nat} (hok : pvOk M) (h : yWs1 M s w) (k : yKs M X) (hw : w < 7) (b : ∀ i : Nat, 700 * s + 100 * w ≤ i → i < 700 * s + 100 * w + 100 → X.1 13 i = M.1 13 i) : yWs1 X s w := by
  have r := yHp_r hok
  intro S hS j i hj hi
  rw [yKs_h k] at hS ⊢
  have hS2 : zHC M (yHp M) S := zHC_k hS (fun a c z => (k.2.2.1 a c (by rcases z with z | z | z | z <;> omega) (by rcases z with z | z | z | z <;> omega)).symm)
  rw [b i (by omega) (by omega), k.2.2.1 (yHp M) 1 (by omega) (by omega), k.2.2.2 w 0 hw (by decide), k.2.2.2 w 1 hw (by decide), k.2.2.2 w 2 hw (by decide), k.2.2.2 w 3 hw (by decide)]
  exact h S hS2 j i hj hi
theorem yWS_k {M X : pvM} (hok : pvOk M) (h : yWS M) (k : yKs M X) (k13 : X.1 13 = M.1 13) (k14 : ∀ s : Nat, s < 4 → X.1 14 s = M.1 14 s) : yWS X := fun s hs z w hw => by
  have r := pvok_r hok 8 1 (lo := 0) (hi := 7) rfl
  rw [k14 s hs] at z
  rw [k.1] at hw
  exact yWs1_k hok (h s hs z w hw) k (by omega) (fun i _ _ => congrFun k13 i)
theorem yWS_f {X : pvM} (z : ∀ s : Nat, s < 4 → X.1 14 s = 0) : yWS X := fun s hs c => absurd (z s hs) c
theorem yWk_r (M : pvM) : yWk M M := id
theorem yWk_t {M Y X : pvM} (h : yWk M Y) (k : yWk Y X) : yWk M X := fun z => k (h z)
theorem yKs_F {M X : pvM} (h : yFr M X) : yKs M X := ⟨congrFun (h 8 (by decide) (by decide)) 1, congrFun (h 8 (by decide) (by decide)) 8, fun a b h1 h2 => congrFun (h a (by omega) (by omega)) b, fun w b h1 _ => congrFun (h (60 + w) (by omega) (by omega)) b⟩
theorem ySU_1 {M X : pvM} {n : Int32} (hM : pvOk M) (hX : pvOk X) (h : ySU M X n) (hn : 0 ≤ n.toInt ∧ n.toInt ≤ 6) : yWs1 X (Int32.toNatClampNeg (M.1 5 1)) (Int32.toNatClampNeg n) := by
  obtain ⟨a, b, c⟩ := h
  have r5 := pvok_r hM 5 1 (lo := 0) (hi := 3) rfl
  have u5 := ycl r5.1
  have un := ycl hn.1
  intro S hS j i hj hi
  have rv : yFr X M := fun q h1 h2 => (a q h1 h2).symm
  have hS2 : zHC M (yHp M) S := by
    have t := yFr_c hX rv hS
    rw [← yFr_h rv] at t; exact t
  have d := c S hS2 j i hj (by unfold yUB; omega)
  have e5 : nI (Int32.toNatClampNeg (M.1 5 1)) = M.1 5 1 := (zi_eq _ _).mpr (by rw [nI_toInt (by omega)]; omega)
  have en : nI (Int32.toNatClampNeg n) = n := (zi_eq _ _).mpr (by rw [nI_toInt (by omega)]; omega)
  have hr := yHp_r hM
  rw [d, e5, en, yFr_h a, a (yHp M) (by omega) (by omega), a (60 + Int32.toNatClampNeg n) (by omega) (by omega)]
  rfl
/-- to a side -/
def yT0 (M X : pvM) : Prop := ∀ a b : Nat, a ≠ 13 → a ≠ 14 → (a < 51 ∨ 59 < a) → (a ≠ 5 ∨ b ≠ 1) → X.1 a b = M.1 a b
theorem yT0_K {M X : pvM} (h : yT0 M X) : yKs M X := ⟨h 8 1 (by decide) (by decide) (by decide) (by decide), h 8 8 (by decide) (by decide) (by decide) (by decide), fun a b h1 h2 => h a b (by omega) (by omega) (by omega) (by omega), fun w b _ _ => h _ _ (by omega) (by omega) (by omega) (by omega)⟩
def yTT (n1 : Int32) (M X : pvM) : Prop := 0 ≤ n1.toInt → n1.toInt < 4 → yT0 M X ∧ X.1 5 1 = n1 ∧ (yWS M → yWS X ∧ ¬ X.1 14 (Int32.toNatClampNeg n1) = 0)
def yTL (M X : pvM) (n1 w : Int32) : Prop := yT0 M X ∧ X.1 5 1 = n1 ∧ X.1 14 = M.1 14 ∧ (∀ i : Nat, (i < 700 * Int32.toNatClampNeg n1 ∨ 700 * Int32.toNatClampNeg n1 + 700 ≤ i) → X.1 13 i = M.1 13 i) ∧ ∀ v : Nat, v < Int32.toNatClampNeg w → yWs1 X (Int32.toNatClampNeg n1) v
theorem yTL_0 {M X : pvM} {n1 : Int32} (e : X = pvu M 5 1 n1) : yTL M X n1 0 := ⟨fun a b _ _ _ h => pvu_n e a b h, pvu_s e, funext fun b => pvu_n e 14 b (Or.inl (by decide)), fun i _ => pvu_n e 13 i (Or.inl (by decide)), fun v h => by rw [ycl0] at h; exact absurd h (by omega)⟩
theorem yTL_s {M X Y : pvM} {n1 w w' : Int32} (hX : pvOk X) (hY : pvOk Y) (h : yTL M X n1 w) (hw : 0 ≤ w.toInt ∧ w.toInt ≤ 6) (h2 : w'.toInt = w.toInt + 1) (d : ySU X Y w) (e14 : Y.1 14 = X.1 14) : yTL M Y n1 w' := by
  obtain ⟨a, b, c, e, f⟩ := h
  have t := ycl hw.1
  have t2 : Int32.toNatClampNeg w' = Int32.toNatClampNeg w + 1 := by
    have := ycl (x := w') (by omega)
    omega
  have r5 := pvok_r hX 5 1 (lo := 0) (hi := 3) rfl
  have u5 := ycl r5.1
  have k := d.1
  have ub : yUB X w = 700 * Int32.toNatClampNeg n1 + 100 * Int32.toNatClampNeg w := by
    unfold yUB
    rw [b] at u5 ⊢
    omega
  refine ⟨fun q z h1 h2 h3 h4 => (congrFun (k q h1 h3) z).trans (a q z h1 h2 h3 h4), (congrFun (k 5 (by decide) (by decide)) 1).trans b, e14.trans c, fun i hi => (d.2.1 i (by rw [ub]; omega)).trans (e i hi), fun v hv => ?_⟩
  by_cases z : v = Int32.toNatClampNeg w
  · subst z
    have := ySU_1 hX hY d hw
    rw [b] at this; exact this
  · exact yWs1_k hX (f v (by omega)) (yKs_F k) (by omega) (fun i h1 h2 => d.2.1 i (by rw [ub]; omega))
theorem yTT_n {M X : pvM} {n1 : Int32} (h : ¬ (0 ≤ n1.toInt ∧ n1.toInt < 4)) : yTT n1 M X := fun h1 h2 => absurd ⟨h1, h2⟩ h
theorem yTT_s {M X : pvM} {n1 : Int32} (hM : pvOk M) (e : X = pvu M 5 1 n1) (c : ¬ X.1 14 (Int32.toNatClampNeg (X.1 5 1)) = 0) : yTT n1 M X := fun h1 h2 => by
  have a : yT0 M X := fun a b _ _ _ h => pvu_n e a b h
  refine ⟨a, pvu_s e, fun z => ⟨yWS_k hM z (yT0_K a) (funext fun b => pvu_n e 13 b (Or.inl (by decide))) (fun s _ => pvu_n e 14 s (Or.inl (by decide))), ?_⟩⟩
  rw [pvu_s e] at c; exact c
theorem yTT_l {M Y X : pvM} {n1 w : Int32} (hM : pvOk M) (hY : pvOk Y) (h : yTL M Y n1 w) (hw : (Y.1 8 1).toInt ≤ w.toInt) (e : X = pvu Y 14 (Int32.toNatClampNeg (Y.1 5 1)) (vp_nar .boolean 1)) : yTT n1 M X := fun h1 h2 => by
  obtain ⟨a, b, c, f, g⟩ := h
  have r8 := pvok_r hY 8 1 (lo := 0) (hi := 7) rfl
  have u1 := ycl h1
  have uw := ycl (x := w) (by omega)
  have k : yKs Y X := ⟨pvu_n e 8 1 (Or.inl (by decide)), pvu_n e 8 8 (Or.inl (by decide)), fun q z i1 i2 => pvu_n e q z (Or.inl (by omega)), fun q z i1 i2 => pvu_n e _ _ (Or.inl (by omega))⟩
  refine ⟨fun q z i1 i2 i3 i4 => (pvu_n e q z (Or.inl i2)).trans (a q z i1 i2 i3 i4), (pvu_n e 5 1 (Or.inl (by decide))).trans b, fun z => ⟨fun s hs hz v hv => ?_, ?_⟩⟩
  · by_cases q : s = Int32.toNatClampNeg n1
    · subst q
      rw [k.1] at hv
      exact yWs1_k hY (g v (by omega)) k (by omega) (fun i _ _ => pvu_n e 13 i (Or.inl (by decide)))
    · rw [b] at e
      rw [pvu_n e 14 s (Or.inr q), c] at hz
      have k2 := yT0_K a
      have k3 : yKs M X := ⟨k.1.trans k2.1, k.2.1.trans k2.2.1, fun q z i1 i2 => (k.2.2.1 q z i1 i2).trans (k2.2.2.1 q z i1 i2), fun q z i1 i2 => (k.2.2.2 q z i1 i2).trans (k2.2.2.2 q z i1 i2)⟩
      rw [k3.1] at hv
      rw [k2.1] at r8
      exact yWs1_k hM (z s hs hz v hv) k3 (by omega) (fun i i1 i2 => (pvu_n e 13 i (Or.inl (by decide))).trans (f i (by omega)))
  · rw [b] at e
    rw [pvu_s e]; decide
/-- forgotten -/
def yFG (X : pvM) (i : Int32) : Prop := ∀ s : Nat, s < Int32.toNatClampNeg i → X.1 14 s = 0
theorem yFG_0 (X : pvM) : yFG X 0 := fun s h => by rw [ycl0] at h; exact absurd h (by omega)
theorem yFG_s {Y X : pvM} {i i' v : Int32} (h : yFG Y i) (h0 : 0 ≤ i.toInt) (h2 : i'.toInt = i.toInt + 1) (e : X = pvu Y 14 (Int32.toNatClampNeg i) v) (hv : v = 0) : yFG X i' := fun s hs => by
  have t := ycl h0
  have := ycl (x := i') (by omega)
  by_cases c : s = Int32.toNatClampNeg i
  · subst c; exact (pvu_s e).trans hv
  · exact (pvu_n e 14 s (Or.inr c)).trans (h s (by omega))
def yFo (X : pvM) : Prop := ∀ s : Nat, s < 4 → X.1 14 s = 0
theorem yFG_e {X : pvM} {i : Int32} (h : yFG X i) (h4 : 4 ≤ i.toInt) : yFo X := fun s hs => h s (by have := ycl (x := i) (by omega); omega)
/-! from now on -/
def yNs (M : pvM) (w : Nat) : Int32 := if M.1 (60 + w) 5 = 0 then 1000000 else 0
def yNI (M X : pvM) (i : Int32) : Prop := (∀ a : Nat, a ≠ 12 → X.1 a = M.1 a) ∧ ∀ w : Nat, w < Int32.toNatClampNeg i → X.1 12 w = yNs M w
theorem yNI_0 (M : pvM) : yNI M M 0 := ⟨fun _ _ => rfl, fun w h => by rw [ycl0] at h; exact absurd h (by omega)⟩
theorem yNI_s {M Y X : pvM} {i i' v : Int32} (h : yNI M Y i) (h0 : 0 ≤ i.toInt) (h2 : i'.toInt = i.toInt + 1) (e : X = pvu Y 12 (Int32.toNatClampNeg i) v) (hv : (Y.1 (pvbs 10 + Int32.toNatClampNeg i) 5 = 0 ∧ v = 1000000) ∨ (¬ Y.1 (pvbs 10 + Int32.toNatClampNeg i) 5 = 0 ∧ v = 0)) : yNI M X i' := by
  have pb : pvbs 10 = 60 := rfl
  have t := ycl h0
  have t2 := ycl (x := i') (by omega)
  have np : 60 + Int32.toNatClampNeg i ≠ 12 := by omega
  refine ⟨fun a ha => (funext fun b => pvu_n e a b (Or.inl ha)).trans (h.1 a ha), fun w hw => ?_⟩
  by_cases c : w = Int32.toNatClampNeg i
  · subst c
    rw [pvu_s e]
    rw [pb, h.1 _ np] at hv
    unfold yNs
    rcases hv with ⟨k, k2⟩ | ⟨k, k2⟩
    · rw [if_pos k, k2]
    · rw [if_neg k, k2]
  · exact (pvu_n e 12 w (Or.inr c)).trans (h.2 w (by omega))
def yNo (M X : pvM) : Prop := (∀ a : Nat, a ≠ 12 → X.1 a = M.1 a) ∧ ∀ w : Nat, (w : Int) < (M.1 8 1).toInt → X.1 12 w = yNs M w
theorem yNI_e {M X : pvM} {i : Int32} (h : yNI M X i) (hi : (X.1 8 1).toInt ≤ i.toInt) : yNo M X := ⟨h.1, fun w hw => h.2 w (by
  rw [h.1 8 (by decide)] at hi
  have := ycl (x := i) (by omega)
  omega)⟩
def yB0 (M X : pvM) : Prop := ∀ a b : Nat, a ≠ 12 → a ≠ 13 → a ≠ 14 → (a < 51 ∨ 59 < a) → (a ≠ 5 ∨ (b ≠ 1 ∧ b ≠ 2)) → X.1 a b = M.1 a b
def yBN (M X : pvM) : Prop := yB0 M X ∧ X.1 5 1 = M.1 8 3 ∧ X.1 5 2 = M.1 8 2 ∧ (yWS M → yWS X ∧ ¬ X.1 14 (Int32.toNatClampNeg (M.1 8 3)) = 0) ∧ ∀ w : Nat, (w : Int) < (M.1 8 1).toInt → X.1 12 w = yNs M w
theorem yB0_K {M X : pvM} (h : yB0 M X) : yKs M X := ⟨h 8 1 (by decide) (by decide) (by decide) (by decide) (by decide), h 8 8 (by decide) (by decide) (by decide) (by decide) (by decide), fun a b h1 h2 => h a b (by omega) (by omega) (by omega) (by omega) (by omega), fun w b _ _ => h _ _ (by omega) (by omega) (by omega) (by omega) (by omega)⟩
theorem yBN_i {M A B X : pvM} (hM : pvOk M) (hA : pvOk A) (hB : pvOk B) (e : A = pvu M 5 2 (M.1 8 2)) (t : yTT (A.1 8 3) A B) (n : yNo B X) : yBN M X := by
  have r := pvok_r hA 8 3 (lo := 0) (hi := 3) rfl
  obtain ⟨t1, t2, t3⟩ := t r.1 (by omega)
  have eA : ∀ a b : Nat, (a ≠ 5 ∨ b ≠ 2) → A.1 a b = M.1 a b := fun a b h => pvu_n e a b h
  have s3 : A.1 8 3 = M.1 8 3 := eA 8 3 (by decide)
  have b0 : yB0 M X := fun a b h1 h2 h3 h4 h5 => (congrFun (n.1 a h1) b).trans ((t1 a b h2 h3 h4 (by omega)).trans (eA a b (by omega)))
  refine ⟨b0, (congrFun (n.1 5 (by decide)) 1).trans (t2.trans s3), (congrFun (n.1 5 (by decide)) 2).trans ((t1 5 2 (by decide) (by decide) (by decide) (by decide)).trans (pvu_s e)), fun z => ?_, fun w hw => ?_⟩
  · have zA : yWS A := yWS_k hM z ⟨eA 8 1 (by decide), eA 8 8 (by decide), fun a b h1 h2 => eA a b (by omega), fun w b _ _ => eA _ _ (by omega)⟩ (funext fun b => eA 13 b (Or.inl (by decide))) (fun s _ => eA 14 s (Or.inl (by decide)))
    obtain ⟨u1, u2⟩ := t3 zA
    refine ⟨yWS_k hB u1 ⟨congrFun (n.1 8 (by decide)) 1, congrFun (n.1 8 (by decide)) 8, fun a b h1 h2 => congrFun (n.1 a (by omega)) b, fun w b _ _ => congrFun (n.1 _ (by omega)) b⟩ (n.1 13 (by decide)) (fun s _ => congrFun (n.1 14 (by decide)) s), ?_⟩
    rw [n.1 14 (by decide), ← s3]; exact u2
  · have e8 : B.1 8 1 = M.1 8 1 := (t1 8 1 (by decide) (by decide) (by decide) (by decide)).trans (eA 8 1 (by decide))
    rw [n.2 w (by rw [e8]; exact hw)]
    unfold yNs
    rw [t1 (60 + w) 5 (by omega) (by omega) (by have r8 := pvok_r hM 8 1 (lo := 0) (hi := 7) rfl; omega) (by omega), eA (60 + w) 5 (by omega)]
/-! other DOORS; what a ROW adds -/
def yod (M : pvM) (n : Nat) : Nat → Int
  | 0 => 0
  | w + 1 => if w ≠ n ∧ M.1 (60 + w) 0 = 4 then max (yod M n w) (M.1 12 w).toInt else yod M n w
def yOI (M : pvM) (n e w : Int32) : Prop := e.toInt = yod M (Int32.toNatClampNeg n) (Int32.toNatClampNeg w) ∧ w.toInt ≤ (M.1 8 1).toInt
theorem yOI_0 {M : pvM} (hok : pvOk M) (n : Int32) : yOI M n 0 0 := by
  have r := pvok_r hok 8 1 (lo := 0) (hi := 7) rfl
  have u0 : (0 : Int32).toInt = 0 := by decide
  exact ⟨by rw [ycl0]; rfl, by omega⟩
theorem yOI_n {M : pvM} {n e w w' : Int32} (h : yOI M n e w) (h0 : 0 ≤ w.toInt) (h1 : w.toInt < (M.1 8 1).toInt) (h2 : w'.toInt = w.toInt + 1) (c : w = n ∨ ¬ M.1 (pvbs 10 + Int32.toNatClampNeg w) 0 = 4) : yOI M n e w' := by
  have t := ycl h0
  have t2 : Int32.toNatClampNeg w' = Int32.toNatClampNeg w + 1 := by
    have := ycl (x := w') (by omega)
    omega
  refine ⟨?_, by omega⟩
  rw [t2]
  show _ = if _ then _ else _
  rw [if_neg (fun z => c.elim (fun c => z.1 (by rw [c])) (fun c => c z.2))]
  exact h.1
theorem yOI_y {M : pvM} {n e e' w w' : Int32} (h : yOI M n e w) (h0 : 0 ≤ w.toInt) (hn : 0 ≤ n.toInt) (h1 : w.toInt < (M.1 8 1).toInt) (h2 : w'.toInt = w.toInt + 1) (c : ¬ w = n) (c2 : M.1 (pvbs 10 + Int32.toNatClampNeg w) 0 = 4) (he : e'.toInt = max e.toInt (M.1 12 (Int32.toNatClampNeg w)).toInt) : yOI M n e' w' := by
  have t := ycl h0
  have tn := ycl hn
  have t2 : Int32.toNatClampNeg w' = Int32.toNatClampNeg w + 1 := by
    have := ycl (x := w') (by omega)
    omega
  have c3 := (not_congr (zi_eq _ _)).mp c
  refine ⟨?_, by omega⟩
  rw [t2, he, h.1]
  show _ = if _ then _ else _
  rw [if_pos ⟨by omega, c2⟩]
theorem yOI_e {M : pvM} {n e w : Int32} (h : yOI M n e w) (h0 : 0 ≤ w.toInt) (h1 : (M.1 8 1).toInt ≤ w.toInt) : e.toInt = yod M (Int32.toNatClampNeg n) (Int32.toNatClampNeg (M.1 8 1)) := by
  have e1 : w = M.1 8 1 := (zi_eq _ _).mpr (by have := h.2; omega)
  rw [← e1]; exact h.1
theorem ymx {a b : Int32} : (if a < b then b else a).toInt = max a.toInt b.toInt := by
  by_cases c : a < b
  · rw [if_pos c]
    have := (zi_lt _ _).mp c
    omega
  · rw [if_neg c]
    have := (not_congr (zi_lt _ _)).mp c
    omega
def yrs (row : Nat → Int32) (a b : Int) : Nat → Int
  | 0 => 0
  | p + 1 => yrs row a b p + (row p).toInt * ((b + (3 - (p : Int))) / 4 - (a + (3 - (p : Int))) / 4)
theorem ymul_b {x y : Int} (hx : 0 ≤ x ∧ x ≤ 9) (hy : -60000 ≤ y ∧ y ≤ 60000) : -540000 ≤ x * y ∧ x * y ≤ 540000 := by
  have h : x = 0 ∨ x = 1 ∨ x = 2 ∨ x = 3 ∨ x = 4 ∨ x = 5 ∨ x = 6 ∨ x = 7 ∨ x = 8 ∨ x = 9 := by omega
  rcases h with h | h | h | h | h | h | h | h | h | h <;> subst h <;> omega
theorem yrs_b {row : Nat → Int32} {a b : Int} (hr : ∀ p : Nat, p < 4 → 0 ≤ (row p).toInt ∧ (row p).toInt ≤ 9) (ha : 0 ≤ a ∧ a ≤ 200000) (hb : 0 ≤ b ∧ b ≤ 200000) : ∀ p : Nat, p ≤ 4 → -(540000 * (p : Int)) ≤ yrs row a b p ∧ yrs row a b p ≤ 540000 * (p : Int)
  | 0, _ => ⟨by show _ ≤ (0 : Int); omega, by show (0 : Int) ≤ _; omega⟩
  | p + 1, h => by
    have i := yrs_b hr ha hb p (by omega)
    have m := ymul_b (hr p (by omega)) (y := (b + (3 - (p : Int))) / 4 - (a + (3 - (p : Int))) / 4) (by omega)
    show _ ≤ yrs row a b p + _ ∧ yrs row a b p + _ ≤ _
    omega
def yRS (M : pvM) (q : Nat) (n1 n2 s p : Int32) : Prop := s.toInt = yrs (fun k => M.1 (q + 7) k) n1.toInt n2.toInt (Int32.toNatClampNeg p)
theorem yRS_0 (M : pvM) (q : Nat) (n1 n2 : Int32) : yRS M q n1 n2 0 0 := by
  unfold yRS
  rw [ycl0]; rfl
theorem yRS_s {M : pvM} {q : Nat} {n1 n2 s p p' c : Int32} (h : yRS M q n1 n2 s p) (hr : ∀ k : Nat, k < 4 → 0 ≤ (M.1 (q + 7) k).toInt ∧ (M.1 (q + 7) k).toInt ≤ 9) (ha : 0 ≤ n1.toInt ∧ n1.toInt ≤ 200000) (hb : 0 ≤ n2.toInt ∧ n2.toInt ≤ 200000) (h0 : 0 ≤ p.toInt ∧ p.toInt ≤ 3) (h2 : p'.toInt = p.toInt + 1) (hc : c.toInt = (n2.toInt + (3 - p.toInt)) / 4 - (n1.toInt + (3 - p.toInt)) / 4) : yRS M q n1 n2 (s + (M.1 (q + 7) (Int32.toNatClampNeg p) * c)) p' := by
  have t := ycl h0.1
  have t2 : Int32.toNatClampNeg p' = Int32.toNatClampNeg p + 1 := by
    have := ycl (x := p') (by omega)
    omega
  have r := hr (Int32.toNatClampNeg p) (by omega)
  have b := yrs_b (row := fun k => M.1 (q + 7) k) hr ha hb (Int32.toNatClampNeg p) (by omega)
  have m := ymul_b r (y := c.toInt) (by omega)
  have e := zmul (M.1 (q + 7) (Int32.toNatClampNeg p)) c (by omega) (by omega)
  unfold yRS at h ⊢
  rw [t2, zadd _ _ (by omega) (by omega), e, h, hc, ← t]
  rfl
theorem yRS_e {M : pvM} {q : Nat} {n1 n2 s p : Int32} (h : yRS M q n1 n2 s p) (h4 : p.toInt = 4) : s.toInt = yrs (fun k => M.1 (q + 7) k) n1.toInt n2.toInt 4 := by
  have := ycl (x := p) (by omega)
  unfold yRS at h
  rw [show Int32.toNatClampNeg p = 4 by omega] at h
  exact h
/-- sums over minutes -/
def ysg (f : Int → Int) (a : Int) : Nat → Int
  | 0 => 0
  | n + 1 => ysg f a n + f (a + n)
def yr4 (row : Nat → Int32) (m : Int) : Int := (row (m % 4).toNat).toInt
theorem yrs_g (row : Nat → Int32) {a : Int} (ha : 0 ≤ a) : ∀ n : Nat, yrs row a (a + n) 4 = ysg (yr4 row) a n
  | 0 => by
    show 0 + _ * _ + _ * _ + _ * _ + _ * _ = (0 : Int)
    simp
  | n + 1 => by
    have i := yrs_g row ha n
    show _ = ysg (yr4 row) a n + yr4 row (a + n)
    rw [← i]
    unfold yr4
    show 0 + (row 0).toInt * ((a + ((n + 1 : Nat) : Int) + (3 - 0)) / 4 - (a + (3 - 0)) / 4) + (row 1).toInt * ((a + ((n + 1 : Nat) : Int) + (3 - 1)) / 4 - (a + (3 - 1)) / 4) + (row 2).toInt * ((a + ((n + 1 : Nat) : Int) + (3 - 2)) / 4 - (a + (3 - 2)) / 4) + (row 3).toInt * ((a + ((n + 1 : Nat) : Int) + (3 - 3)) / 4 - (a + (3 - 3)) / 4) = 0 + (row 0).toInt * ((a + (n : Int) + (3 - 0)) / 4 - (a + (3 - 0)) / 4) + (row 1).toInt * ((a + (n : Int) + (3 - 1)) / 4 - (a + (3 - 1)) / 4) + (row 2).toInt * ((a + (n : Int) + (3 - 2)) / 4 - (a + (3 - 2)) / 4) + (row 3).toInt * ((a + (n : Int) + (3 - 3)) / 4 - (a + (3 - 3)) / 4) + _
    have step : ∀ (x A B C : Int), B = C + 1 → x * (B - A) = x * (C - A) + x := fun x A B C h => by
      rw [h, show C + 1 - A = (C - A) + 1 by omega, Int.mul_add]; omega
    have same : ∀ (x A B C : Int), B = C → x * (B - A) = x * (C - A) := fun x A B C h => by rw [h]
    have c4 : (a + (n : Int)) % 4 = 0 ∨ (a + (n : Int)) % 4 = 1 ∨ (a + (n : Int)) % 4 = 2 ∨ (a + (n : Int)) % 4 = 3 := by omega
    rcases c4 with c | c | c | c <;> rw [c]
    · rw [step (row 0).toInt _ _ ((a + (n : Int) + (3 - 0)) / 4) (by omega), same (row 1).toInt _ _ ((a + (n : Int) + (3 - 1)) / 4) (by omega), same (row 2).toInt _ _ ((a + (n : Int) + (3 - 2)) / 4) (by omega), same (row 3).toInt _ _ ((a + (n : Int) + (3 - 3)) / 4) (by omega)]
      show _ = _ + (row 0).toInt
      omega
    · rw [same (row 0).toInt _ _ ((a + (n : Int) + (3 - 0)) / 4) (by omega), step (row 1).toInt _ _ ((a + (n : Int) + (3 - 1)) / 4) (by omega), same (row 2).toInt _ _ ((a + (n : Int) + (3 - 2)) / 4) (by omega), same (row 3).toInt _ _ ((a + (n : Int) + (3 - 3)) / 4) (by omega)]
      show _ = _ + (row 1).toInt
      omega
    · rw [same (row 0).toInt _ _ ((a + (n : Int) + (3 - 0)) / 4) (by omega), same (row 1).toInt _ _ ((a + (n : Int) + (3 - 1)) / 4) (by omega), step (row 2).toInt _ _ ((a + (n : Int) + (3 - 2)) / 4) (by omega), same (row 3).toInt _ _ ((a + (n : Int) + (3 - 3)) / 4) (by omega)]
      show _ = _ + (row 2).toInt
      omega
    · rw [same (row 0).toInt _ _ ((a + (n : Int) + (3 - 0)) / 4) (by omega), same (row 1).toInt _ _ ((a + (n : Int) + (3 - 1)) / 4) (by omega), same (row 2).toInt _ _ ((a + (n : Int) + (3 - 2)) / 4) (by omega), step (row 3).toInt _ _ ((a + (n : Int) + (3 - 3)) / 4) (by omega)]
      show _ = _ + (row 3).toInt
      omega
