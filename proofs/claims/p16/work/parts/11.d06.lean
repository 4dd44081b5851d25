/-! HARM of one WINDOW by minutes -/
theorem ysg_a (f : Int → Int) (a : Int) (n : Nat) : ∀ m : Nat, ysg f a (n + m) = ysg f a n + ysg f (a + n) m
  | 0 => by show ysg f a n = ysg f a n + 0; omega
  | m + 1 => by
    show ysg f a (n + m) + f (a + ((n + m : Nat) : Int)) = ysg f a n + (ysg f (a + n) m + f (a + n + m))
    rw [ysg_a f a n m, show a + ((n + m : Nat) : Int) = a + n + m by omega]; omega
theorem ysg_z {f : Int → Int} {a : Int} : ∀ {n : Nat}, (∀ m : Int, a ≤ m → m < a + n → f m = 0) → ysg f a n = 0
  | 0, _ => rfl
  | n + 1, h => by
    show ysg f a n + f (a + n) = 0
    rw [ysg_z (fun m h1 h2 => h m h1 (by omega)), h (a + n) (by omega) (by omega)]; rfl
theorem ysg_c {f g : Int → Int} {a : Int} : ∀ {n : Nat}, (∀ m : Int, a ≤ m → m < a + n → f m = g m) → ysg f a n = ysg g a n
  | 0, _ => rfl
  | n + 1, h => by
    show ysg f a n + f (a + n) = ysg g a n + g (a + n)
    rw [ysg_c (fun m h1 h2 => h m h1 (by omega)), h (a + n) (by omega) (by omega)]
theorem ysg_p (f g : Int → Int) (a : Int) : ∀ n : Nat, ysg (fun m => f m + g m) a n = ysg f a n + ysg g a n
  | 0 => rfl
  | n + 1 => by
    show ysg (fun m => f m + g m) a n + (f (a + n) + g (a + n)) = ysg f a n + f (a + n) + (ysg g a n + g (a + n))
    rw [ysg_p f g a n]; omega
def yhm (k v s : Int32) (row : Nat → Int32) (co la : Int) (R : Nat → Int) (sh od : Int) (m : Int) : Int := if co ≤ m ∧ m < co + la ∧ m < sh then yhb k v s (R (m - co).toNat) + ((if k = 6 then yr4 row m else 0) + (if k = 4 ∧ m < od then v.toInt else 0)) else 0
theorem yss_g (w k v f r s : Int32) (S : List yCl) (co : Int) (p : Nat) : ∀ n : Nat, ysg (fun m => yhb k v s (yRn (yph w k f r s (nI (m - co).toNat)) S)) (co + p) n = yss w k v f r s S (p + n) - yss w k v f r s S p
  | 0 => by show (0 : Int) = yss w k v f r s S p - yss w k v f r s S p; omega
  | n + 1 => by
    show ysg _ (co + p) n + yhb k v s (yRn (yph w k f r s (nI (co + p + n - co).toNat)) S) = (yss w k v f r s S (p + n) + yhb k v s (yRn (yph w k f r s (nI (p + n))) S)) - _
    rw [yss_g w k v f r s S co p n, show (co + (p : Int) + (n : Int) - co).toNat = p + n by omega]; omega
theorem yod_g (v od a : Int) : ∀ n : Nat, ysg (fun m => if m < od then v else 0) a n = v * max 0 (min (a + n) od - a)
  | 0 => by
    show (0 : Int) = _
    rw [show max 0 (min (a + ((0 : Nat) : Int)) od - a) = 0 by omega]; omega
  | n + 1 => by
    show ysg _ a n + (if a + n < od then v else 0) = _
    rw [yod_g v od a n]
    by_cases c : a + (n : Int) < od
    · rw [if_pos c, show max 0 (min (a + ((n + 1 : Nat) : Int)) od - a) = max 0 (min (a + (n : Int)) od - a) + 1 by omega, Int.mul_add]; omega
    · rw [if_neg c, show max 0 (min (a + ((n + 1 : Nat) : Int)) od - a) = max 0 (min (a + (n : Int)) od - a) by omega]; omega
/-- the sum over minutes, told at once -/
theorem yhm_g {w k v f r s : Int32} {S : List yCl} {row : Nat → Int32} {co la sh od a b first till : Int} (hco : 0 ≤ co) (ha : 0 ≤ a) (e1 : first = max a co) (e2 : till = min (min b (co + la)) sh) : ysg (yhm k v s row co la (fun t => yRn (yph w k f r s (nI t)) S) sh od) a (b - a).toNat = if till ≤ first then 0 else (yss w k v f r s S (till - co).toNat - yss w k v f r s S (first - co).toNat) + ((if k = 6 then yrs row first till 4 else 0) + (if k = 4 then v.toInt * max 0 (min till od - first) else 0)) := by
  by_cases c : till ≤ first
  · rw [if_pos c]
    refine ysg_z (fun m h1 h2 => ?_)
    unfold yhm
    rw [if_neg (by omega)]
  · rw [if_neg c]
    rw [show (b - a).toNat = (first - a).toNat + ((till - first).toNat + (b - till).toNat) by omega, ysg_a, ysg_a, show a + ((first - a).toNat : Int) = first by omega, show first + ((till - first).toNat : Int) = till by omega]
    rw [ysg_z (f := yhm k v s row co la (fun t => yRn (yph w k f r s (nI t)) S) sh od) (a := a) (fun m h1 h2 => by unfold yhm; rw [if_neg (by omega)])]
    rw [ysg_z (f := yhm k v s row co la (fun t => yRn (yph w k f r s (nI t)) S) sh od) (a := till) (fun m h1 h2 => by unfold yhm; rw [if_neg (by omega)])]
    rw [ysg_c (g := fun m => yhb k v s (yRn (yph w k f r s (nI (m - co).toNat)) S) + ((if k = 6 then yr4 row m else 0) + (if k = 4 ∧ m < od then v.toInt else 0))) (fun m h1 h2 => by unfold yhm; rw [if_pos (by omega)]), ysg_p, ysg_p]
    have g1 := yss_g w k v f r s S co (first - co).toNat (till - first).toNat
    rw [show co + ((first - co).toNat : Int) = first by omega, show (first - co).toNat + (till - first).toNat = (till - co).toNat by omega] at g1
    have g2 : ysg (fun m => if k = 6 then yr4 row m else 0) first (till - first).toNat = if k = 6 then yrs row first till 4 else 0 := by
      by_cases d : k = 6
      · have := yrs_g row (a := first) (by omega) (till - first).toNat
        rw [show first + ((till - first).toNat : Int) = till by omega] at this
        rw [if_pos d, this]
        exact ysg_c (fun m _ _ => if_pos d)
      · rw [if_neg d]
        exact ysg_z (fun m _ _ => if_neg d)
    have g3 : ysg (fun m => if k = 4 ∧ m < od then v.toInt else 0) first (till - first).toNat = if k = 4 then v.toInt * max 0 (min till od - first) else 0 := by
      by_cases d : k = 4
      · have := yod_g v.toInt od first (till - first).toNat
        rw [show first + ((till - first).toNat : Int) = till by omega] at this
        rw [if_pos d, ← this]
        refine ysg_c (fun m _ _ => ?_)
        by_cases e : m < od
        · rw [if_pos ⟨d, e⟩, if_pos e]
        · rw [if_neg (fun z => e z.2), if_neg e]
      · rw [if_neg d]
        exact ysg_z (fun m _ _ => if_neg (fun z => d z.1))
    rw [g1, g2, g3]; omega
/-- how much RAIN at most -/
theorem ysum_b {φ : Nat → Int32} : ∀ {S : List yCl}, (∀ x, x ∈ S → -99 ≤ (zam x).toInt ∧ (zam x).toInt ≤ 99) → -(99 * (S.length : Int)) ≤ ysum φ S ∧ ysum φ S ≤ 99 * (S.length : Int)
  | [], _ => by show _ ≤ (0 : Int) ∧ (0 : Int) ≤ _; simp
  | x :: S, h => by
    have i := ysum_b (φ := φ) (S := S) (fun y hy => h y (List.mem_cons_of_mem _ hy))
    have j := h x (List.mem_cons_self ..)
    have t : -99 ≤ ytm φ x ∧ ytm φ x ≤ 99 := by
      unfold ytm
      split
      · split
        · exact j
        · omega
      · omega
    show _ ≤ ytm φ x + ysum φ S ∧ ytm φ x + ysum φ S ≤ _
    rw [List.length_cons]
    omega
theorem yRn_b {M : pvM} {q : Nat} {S : List yCl} {φ : Nat → Int32} (h : zHC M q S) (h10 : (M.1 q 2).toInt ≤ 10) (ha : ∀ i : Nat, -99 ≤ (M.1 (q + 9) i).toInt ∧ (M.1 (q + 9) i).toInt ≤ 99) : 0 ≤ yRn φ S ∧ yRn φ S ≤ 1000 := by
  have b : ∀ x, x ∈ zcs S → -99 ≤ (zam x).toInt ∧ (zam x).toInt ≤ 99 := fun x hx => by
    obtain ⟨i, hi⟩ := List.getElem?_of_mem hx
    have := ha i
    rw [(h.2.2.2.2 i x hi).1] at this; exact this
  have s := ysum_b (φ := φ) b
  rw [ysum_z] at s
  have l := h.2.2.1
  unfold yRn
  split <;> omega
theorem yhb_b {k v s : Int32} {r : Int} (h : 0 ≤ r ∧ r ≤ 1000) : 0 ≤ yhb k v s r ∧ yhb k v s r ≤ 2000 := by
  unfold yhb
  repeat' split
  all_goals omega
theorem yss_b {w k v f r s : Int32} {S : List yCl} (h : ∀ φ : Nat → Int32, 0 ≤ yRn φ S ∧ yRn φ S ≤ 1000) : ∀ n : Nat, 0 ≤ yss w k v f r s S n ∧ yss w k v f r s S n ≤ 2000 * (n : Int)
  | 0 => by show (0 : Int) ≤ 0 ∧ (0 : Int) ≤ _; omega
  | n + 1 => by
    have i := yss_b (w := w) (k := k) (v := v) (f := f) (r := r) (s := s) h n
    have j := yhb_b (k := k) (v := v) (s := s) (h (yph w k f r s (nI n)))
    show 0 ≤ yss w k v f r s S n + _ ∧ yss w k v f r s S n + _ ≤ _
    omega
/-! the class: HARM of a WINDOW from a MINUTE to ahead of another -/
theorem yhk {M : pvM} (hok : pvOk M) : pvkl (yHp M) = 2 := pvhp_k (pvok_r hok 8 8 (lo := 15) (hi := 23) rfl) rfl
theorem yhl {M : pvM} (hok : pvOk M) : 0 ≤ (M.1 (yHp M) 1).toInt ∧ (M.1 (yHp M) 1).toInt ≤ 99 := pvok_r hok (yHp M) 1 ((pvrg_o 1 (yhk hok) (by decide) (by decide)).trans rfl)
theorem yhr {M : pvM} (hok : pvOk M) {S : List yCl} (h : zHC M (yHp M) S) (φ : Nat → Int32) : 0 ≤ yRn φ S ∧ yRn φ S ≤ 1000 := yRn_b h (pvok_r hok (yHp M) 2 (lo := 0) (hi := 10) ((pvrg_o 2 (yhk hok) (by decide) (by decide)).trans rfl)).2 (fun i => pvok_r hok (yHp M + 9) i (lo := -99) (hi := 99) ((pvrg_a _ (by rw [(pvow_2_9 (yhk hok)).1]; decide)).trans (pvow_2_9 (yhk hok)).2.2.2))
def y9h (M : pvM) (S : List yCl) (w : Nat) : Int → Int := yhm (M.1 (60 + w) 0) (M.1 (60 + w) 1) (M.1 5 1) (M.1 (60 + w + 7)) (M.1 5 2).toInt (M.1 (yHp M) 1).toInt (fun t => yRn (yph (nI w) (M.1 (60 + w) 0) (M.1 (60 + w) 2) (M.1 (60 + w) 3) (M.1 5 1) (nI t)) S) (M.1 12 w).toInt (yod M w (Int32.toNatClampNeg (M.1 8 1)))
def yHO (M : pvM) (n1 n2 n3 x : Int32) : Prop := yWS M → ¬ M.1 14 (Int32.toNatClampNeg (M.1 5 1)) = 0 → n1.toInt < (M.1 8 1).toInt → ∀ S : List yCl, zHC M (yHp M) S → x.toInt = ysg (y9h M S (Int32.toNatClampNeg n1)) n2.toInt (n3.toInt - n2.toInt).toNat
theorem ymn {a b : Int32} : (if b < a then b else a).toInt = min a.toInt b.toInt := by
  by_cases c : b < a
  · rw [if_pos c]
    have := (zi_lt _ _).mp c
    omega
  · rw [if_neg c]
    have := (not_congr (zi_lt _ _)).mp c
    omega
theorem ymn2 {a b : Int32} : (if a < b then a else b).toInt = min a.toInt b.toInt := by
  by_cases c : a < b
  · rw [if_pos c]
    have := (zi_lt _ _).mp c
    omega
  · rw [if_neg c]
    have := (not_congr (zi_lt _ _)).mp c
    omega
theorem yHO_z {M : pvM} {n1 n2 n3 fi ti x4 : Int32} (hok : pvOk M) (h2 : 0 ≤ n2.toInt) (efi : fi.toInt = max n2.toInt (M.1 5 2).toInt) (e4 : x4.toInt = (M.1 5 2).toInt + (M.1 (pvhp (M.1 8 8)) 1).toInt) (eti : ti.toInt = min (min n3.toInt x4.toInt) (M.1 12 (Int32.toNatClampNeg n1)).toInt) (c : ¬ fi < ti) : yHO M n1 n2 n3 0 := fun _ _ _ S _ => by
  have c2 := (not_congr (zi_lt _ _)).mp c
  have r := pvok_r hok 5 2 (lo := 0) (hi := 108) rfl
  unfold y9h
  rw [yhm_g (first := fi.toInt) (till := ti.toInt) r.1 h2 efi (by rw [eti, e4]; rfl), if_pos (by omega)]
  rfl
theorem yHO_i {M : pvM} {n1 n2 n3 fi ti x4 a b x : Int32} (hok : pvOk M) (h1 : 0 ≤ n1.toInt ∧ n1.toInt ≤ 6) (h2 : 0 ≤ n2.toInt) (efi : fi.toInt = max n2.toInt (M.1 5 2).toInt) (e4 : x4.toInt = (M.1 5 2).toInt + (M.1 (pvhp (M.1 8 8)) 1).toInt) (eti : ti.toInt = min (min n3.toInt x4.toInt) (M.1 12 (Int32.toNatClampNeg n1)).toInt) (c : fi < ti) (ea : a.toInt = 700 * Int32.toInt (M.1 5 1) + 100 * Int32.toInt n1 + max 0 (min (ti.toInt - (M.1 5 2).toInt) 99)) (eb : b.toInt = 700 * Int32.toInt (M.1 5 1) + 100 * Int32.toInt n1 + max 0 (min (fi.toInt - (M.1 5 2).toInt) 99)) (hx : ∀ z : Int, ((M.1 13 (Int32.toNatClampNeg a)) - (M.1 13 (Int32.toNatClampNeg b))).toInt = z → -200000 ≤ z → z ≤ 200000 → x.toInt = z + ((if M.1 (60 + Int32.toNatClampNeg n1) 0 = 6 then yrs (M.1 (60 + Int32.toNatClampNeg n1 + 7)) fi.toInt ti.toInt 4 else 0) + (if M.1 (60 + Int32.toNatClampNeg n1) 0 = 4 then (M.1 (60 + Int32.toNatClampNeg n1) 1).toInt * max 0 (min ti.toInt (yod M (Int32.toNatClampNeg n1) (Int32.toNatClampNeg (M.1 8 1))) - fi.toInt) else 0))) : yHO M n1 n2 n3 x := fun hW hs hw S hS => by
  have c2 := (zi_lt _ _).mp c
  have r := pvok_r hok 5 2 (lo := 0) (hi := 108) rfl
  have r5 := pvok_r hok 5 1 (lo := 0) (hi := 3) rfl
  have u5 := ycl r5.1
  have u1 := ycl h1.1
  have l := yhl hok
  have ll := ycl l.1
  have q := hW (Int32.toNatClampNeg (M.1 5 1)) (by omega) hs (Int32.toNatClampNeg n1) (by omega) S hS
  have e4' : x4.toInt = (M.1 5 2).toInt + (M.1 (yHp M) 1).toInt := e4
  have ua := ycl (x := a) (by omega)
  have ub := ycl (x := b) (by omega)
  have A := q (ti.toInt - (M.1 5 2).toInt).toNat (Int32.toNatClampNeg a) (by omega) (by omega)
  have B := q (fi.toInt - (M.1 5 2).toInt).toNat (Int32.toNatClampNeg b) (by omega) (by omega)
  rw [Nat.min_eq_left (by omega)] at A B
  have e5 : nI (Int32.toNatClampNeg (M.1 5 1)) = M.1 5 1 := (zi_eq _ _).mpr (by rw [nI_toInt (by omega)]; omega)
  rw [e5] at A B
  have bA := yss_b (w := nI (Int32.toNatClampNeg n1)) (k := M.1 (60 + Int32.toNatClampNeg n1) 0) (v := M.1 (60 + Int32.toNatClampNeg n1) 1) (f := M.1 (60 + Int32.toNatClampNeg n1) 2) (r := M.1 (60 + Int32.toNatClampNeg n1) 3) (s := M.1 5 1) (yhr hok hS) (ti.toInt - (M.1 5 2).toInt).toNat
  have bB := yss_b (w := nI (Int32.toNatClampNeg n1)) (k := M.1 (60 + Int32.toNatClampNeg n1) 0) (v := M.1 (60 + Int32.toNatClampNeg n1) 1) (f := M.1 (60 + Int32.toNatClampNeg n1) 2) (r := M.1 (60 + Int32.toNatClampNeg n1) 3) (s := M.1 5 1) (yhr hok hS) (fi.toInt - (M.1 5 2).toInt).toNat
  have d := zsub (M.1 13 (Int32.toNatClampNeg a)) (M.1 13 (Int32.toNatClampNeg b)) (by omega) (by omega)
  have z := hx _ d (by omega) (by omega)
  unfold y9h
  rw [yhm_g (first := fi.toInt) (till := ti.toInt) r.1 h2 efi (by rw [eti, e4]; rfl), if_neg (by omega), z, A, B]
theorem yHO_n {k : Int32} {x d : Int32} {E F : Int} (h6 : ¬ k = 6) (h4 : ¬ k = 4) (hx : x = d) : ∀ z : Int, d.toInt = z → -200000 ≤ z → z ≤ 200000 → x.toInt = z + ((if k = 6 then E else 0) + (if k = 4 then F else 0)) := fun z e _ _ => by
  rw [if_neg h6, if_neg h4, hx]; omega
theorem yHO_6 {k : Int32} {x d p : Int32} {E F : Int} (h6 : k = 6) (hx : x = d + p) (hp : p.toInt = E) (hb : -3000000 ≤ E ∧ E ≤ 3000000) : ∀ z : Int, d.toInt = z → -200000 ≤ z → z ≤ 200000 → x.toInt = z + ((if k = 6 then E else 0) + (if k = 4 then F else 0)) := fun z e _ _ => by
  have h4 : ¬ k = 4 := by rw [h6]; decide
  rw [if_pos h6, if_neg h4, hx, zadd _ _ (by omega) (by omega)]; omega
theorem yHO_4 {k : Int32} {x d p : Int32} {E F : Int} (h4 : k = 4) (hx : x = d + p) (hp : p.toInt = F) (hb : -3000000 ≤ F ∧ F ≤ 3000000) : ∀ z : Int, d.toInt = z → -200000 ≤ z → z ≤ 200000 → x.toInt = z + ((if k = 6 then E else 0) + (if k = 4 then F else 0)) := fun z e _ _ => by
  have h6 : ¬ k = 6 := by rw [h4]; decide
  rw [if_neg h6, if_pos h4, hx, zadd _ _ (by omega) (by omega)]; omega
theorem yp4 {v m fi ti x : Int32} {od : Int} (hv : 0 ≤ v.toInt ∧ v.toInt ≤ 9) (hm : m.toInt = min x.toInt ti.toInt) (hx : x.toInt = od) (h0 : 0 ≤ x.toInt) (ht : 0 ≤ ti.toInt ∧ ti.toInt ≤ 207) (hf : 0 ≤ fi.toInt ∧ fi.toInt ≤ 207) : (v * (if 0 < (m - fi) then (m - fi) else 0)).toInt = v.toInt * max 0 (min ti.toInt od - fi.toInt) ∧ -3000000 ≤ v.toInt * max 0 (min ti.toInt od - fi.toInt) ∧ v.toInt * max 0 (min ti.toInt od - fi.toInt) ≤ 3000000 := by
  have d := zsub m fi (by omega) (by omega)
  have u0 : (0 : Int32).toInt = 0 := by decide
  have e : (if 0 < (m - fi) then (m - fi) else 0).toInt = max 0 (min ti.toInt od - fi.toInt) := by
    rw [ymx, u0, d, hm, hx]; omega
  have b := ymul_b hv (y := max 0 (min ti.toInt od - fi.toInt)) (by omega)
  rw [zmul _ _ (by rw [e]; omega) (by rw [e]; omega), e]
  omega
theorem yb3 {E : Int} (h : -(540000 * ((4 : Nat) : Int)) ≤ E ∧ E ≤ 540000 * ((4 : Nat) : Int)) : -3000000 ≤ E ∧ E ≤ 3000000 := by omega
/-! the class: HARM of all WINDOWS; COST -/
theorem ysg_bd {f : Int → Int} {co la a : Int} (h0 : ∀ m : Int, 0 ≤ m → 0 ≤ f m ∧ f m ≤ 2018) (hz : ∀ m : Int, ¬ (co ≤ m ∧ m < co + la) → f m = 0) (ha : 0 ≤ a) : ∀ n : Nat, 0 ≤ ysg f a n ∧ ysg f a n ≤ 2018 * max 0 (min (a + n) (co + la) - max a co)
  | 0 => by show (0 : Int) ≤ 0 ∧ (0 : Int) ≤ _; omega
  | n + 1 => by
    have i := ysg_bd h0 hz ha n
    show 0 ≤ ysg f a n + f (a + n) ∧ ysg f a n + f (a + n) ≤ _
    by_cases c : co ≤ a + (n : Int) ∧ a + (n : Int) < co + la
    · have j := h0 (a + n) (by omega)
      omega
    · rw [hz _ c]
      omega
theorem yhm_b {k v s : Int32} {row : Nat → Int32} {co la : Int} {R : Nat → Int} {sh od : Int} (hv : 0 ≤ v.toInt ∧ v.toInt ≤ 9) (hr : ∀ p : Nat, p < 4 → 0 ≤ (row p).toInt ∧ (row p).toInt ≤ 9) (hR : ∀ t : Nat, 0 ≤ R t ∧ R t ≤ 1000) (m : Int) : 0 ≤ yhm k v s row co la R sh od m ∧ yhm k v s row co la R sh od m ≤ 2018 := by
  unfold yhm
  split
  · have b := yhb_b (k := k) (v := v) (s := s) (hR (m - co).toNat)
    have r : 0 ≤ yr4 row m ∧ yr4 row m ≤ 9 := hr _ (by omega)
    repeat' split
    all_goals omega
  · omega
theorem y9h_b {M : pvM} (hok : pvOk M) {S : List yCl} (hS : zHC M (yHp M) S) {w : Nat} (hw : w < 7) {a : Int} (ha : 0 ≤ a) (n : Nat) : 0 ≤ ysg (y9h M S w) a n ∧ ysg (y9h M S w) a n ≤ 200000 := by
  have l := yhl hok
  have kl : pvkl (60 + w) = 3 := by
    have : w = 0 ∨ w = 1 ∨ w = 2 ∨ w = 3 ∨ w = 4 ∨ w = 5 ∨ w = 6 := by omega
    rcases this with h | h | h | h | h | h | h <;> subst h <;> rfl
  have b := ysg_bd (f := y9h M S w) (co := (M.1 5 2).toInt) (la := (M.1 (yHp M) 1).toInt) (fun m _ => yhm_b (pvok_r hok (60 + w) 1 ((pvrg_o 1 kl (by decide) (by decide)).trans rfl)) (fun k _ => pvok_r hok (60 + w + 7) k ((pvrg_a _ (by rw [(pvow_3_7 kl).1]; decide)).trans (pvow_3_7 kl).2.2.2)) (fun t => yhr hok hS _) m) (fun m c => by unfold y9h yhm; rw [if_neg (fun z => c ⟨z.1, z.2.1⟩)]) ha n
  omega
def yal (M : pvM) (S : List yCl) (a : Int) (n : Nat) : Nat → Int
  | 0 => 0
  | w + 1 => yal M S a n w + ysg (y9h M S w) a n
theorem yal_b {M : pvM} (hok : pvOk M) {S : List yCl} (hS : zHC M (yHp M) S) {a : Int} (ha : 0 ≤ a) (n : Nat) : ∀ w : Nat, w ≤ 7 → 0 ≤ yal M S a n w ∧ yal M S a n w ≤ 200000 * (w : Int)
  | 0, _ => by show (0 : Int) ≤ 0 ∧ (0 : Int) ≤ _; omega
  | w + 1, h => by
    have i := yal_b hok hS ha n w (by omega)
    have j := y9h_b hok hS (w := w) (by omega) ha n
    show 0 ≤ yal M S a n w + _ ∧ yal M S a n w + _ ≤ _
    omega
def yAI (M : pvM) (n1 n2 sum w : Int32) : Prop := w.toInt ≤ (M.1 8 1).toInt ∧ (yWS M → ¬ M.1 14 (Int32.toNatClampNeg (M.1 5 1)) = 0 → ∀ S : List yCl, zHC M (yHp M) S → sum.toInt = yal M S n1.toInt (n2.toInt - n1.toInt).toNat (Int32.toNatClampNeg w))
theorem yAI_0 {M : pvM} (hok : pvOk M) (n1 n2 : Int32) : yAI M n1 n2 0 0 := by
  have r := pvok_r hok 8 1 (lo := 0) (hi := 7) rfl
  have u0 : (0 : Int32).toInt = 0 := by decide
  exact ⟨by omega, fun _ _ S _ => by rw [ycl0]; rfl⟩
theorem yAI_s {M : pvM} {n1 n2 sum w w' x : Int32} (hok : pvOk M) (h : yAI M n1 n2 sum w) (h1 : 0 ≤ n1.toInt) (h0 : 0 ≤ w.toInt) (hw : w.toInt < (M.1 8 1).toInt) (h2 : w'.toInt = w.toInt + 1) (d : yHO M w n1 n2 x) : yAI M n1 n2 (sum + x) w' := by
  have r := pvok_r hok 8 1 (lo := 0) (hi := 7) rfl
  have t := ycl h0
  have t2 : Int32.toNatClampNeg w' = Int32.toNatClampNeg w + 1 := by
    have := ycl (x := w') (by omega)
    omega
  refine ⟨by omega, fun hW hs S hS => ?_⟩
  have a := h.2 hW hs S hS
  have b := d hW hs hw S hS
  have ba := yal_b hok hS h1 (n2.toInt - n1.toInt).toNat (Int32.toNatClampNeg w) (by omega)
  have bb := y9h_b hok hS (w := Int32.toNatClampNeg w) (by omega) h1 (n2.toInt - n1.toInt).toNat
  rw [t2, zadd _ _ (by omega) (by omega), a, b]
  rfl
def yHA (M : pvM) (n1 n2 x : Int32) : Prop := yWS M → ¬ M.1 14 (Int32.toNatClampNeg (M.1 5 1)) = 0 → ∀ S : List yCl, zHC M (yHp M) S → x.toInt = yal M S n1.toInt (n2.toInt - n1.toInt).toNat (Int32.toNatClampNeg (M.1 8 1))
theorem yAI_e {M : pvM} {n1 n2 sum w : Int32} (h : yAI M n1 n2 sum w) (hw : (M.1 8 1).toInt ≤ w.toInt) : yHA M n1 n2 sum := by
  have e : w = M.1 8 1 := (zi_eq _ _).mpr (by have := h.1; omega)
  subst e
  exact h.2
def yCo (M : pvM) (x : Int32) : Prop := yWS M → ¬ M.1 14 (Int32.toNatClampNeg (M.1 5 1)) = 0 → ∀ S : List yCl, zHC M (yHp M) S → x.toInt = yal M S (M.1 8 4).toInt ((M.1 5 2).toInt + (M.1 (yHp M) 1).toInt - (M.1 8 4).toInt).toNat (Int32.toNatClampNeg (M.1 8 1))
theorem yCo_i {M : pvM} {e x : Int32} (d : yHA M (M.1 8 4) e x) (he : e.toInt = (M.1 5 2).toInt + (M.1 (pvhp (M.1 8 8)) 1).toInt) : yCo M x := fun hW hs S hS => by
  have := d hW hs S hS
  rw [he] at this
  exact this
/-! RAIN, the reference -/
def yTS (M : pvM) (S : List yCl) : Prop := if (M.1 124 15).toInt < 0 then S = [] else zHR M (Int32.toNatClampNeg (M.1 124 15)) S
def yGd (S : List yCl) : Prop := ∀ x : yCl, x ∈ S → x.1 < 2 → ∀ φ : Nat → Int32, ∃ v : Bool, zr10 φ x.2.2 [] = [v]
def yQb (M : pvM) : Nat := 10 * Int32.toNatClampNeg (M.1 124 15)
def yQI (M X : pvM) (w sum c : Int32) : Prop := (∀ a : Nat, a ≠ 141 → X.1 a = M.1 a) ∧ yQb M ≤ Int32.toNatClampNeg c ∧ ∀ S : List yCl, yTS M S → yGd S → sum.toInt = 3 + ysum (y0f M w) (S.take (Int32.toNatClampNeg c - yQb M))
theorem yQI_0 {M : pvM} {w c : Int32} (h0 : 0 ≤ c.toInt) (h : (c.toInt = 10 * (M.1 124 15).toInt ∧ 0 ≤ (M.1 124 15).toInt) ∨ ((M.1 124 15).toInt < 0 ∧ c.toInt = 0)) : yQI M M w 3 c := by
  have a : Int32.toNatClampNeg c = yQb M := by
    have := ycl h0
    unfold yQb
    rcases h with h | h
    · have := ycl h.2; omega
    · have : Int32.toNatClampNeg (M.1 124 15) = 0 := by show (M.1 124 15).toInt.toNat = 0; omega
      omega
  refine ⟨fun _ _ => rfl, by omega, fun S _ _ => ?_⟩
  rw [a, Nat.sub_self]; rfl
theorem yQI_s {M X X' : pvM} {w sum sum' c c' : Int32} (h : yQI M X w sum c) (hX : ∀ a : Nat, a ≠ 141 → X'.1 a = X.1 a) (h0 : 0 ≤ c.toInt) (ht : 0 ≤ (M.1 124 15).toInt) (h1 : c.toInt < 10 * (X.1 124 15).toInt + (X.1 133 (Int32.toNatClampNeg (X.1 124 15))).toInt) (h2 : c'.toInt = c.toInt + 1) (st : ∀ e : yCl, (e.1 < 4 ∧ X.1 134 (Int32.toNatClampNeg c) = nI e.1) → X.1 135 (Int32.toNatClampNeg c) = e.2.1 → (e.1 < 2 → zsl10 X (Int32.toNatClampNeg (X.1 136 (Int32.toNatClampNeg c))) (Int32.toNatClampNeg (X.1 137 (Int32.toNatClampNeg c))) = e.2.2 ∧ ∃ v : Bool, zr10 (y0f X w) e.2.2 [] = [v]) → sum'.toInt = sum.toInt + ytm (y0f X w) e) : yQI M X' w sum' c' := by
  obtain ⟨hm, hb, hs⟩ := h
  have t := ycl h0
  have t2 : Int32.toNatClampNeg c' = Int32.toNatClampNeg c + 1 := by
    have := ycl (x := c') (by omega)
    omega
  refine ⟨fun a ha => (hX a ha).trans (hm a ha), by omega, fun S hS hg => ?_⟩
  have r := hs S hS hg
  have hZ : zHR M (Int32.toNatClampNeg (M.1 124 15)) S := by
    unfold yTS at hS
    rw [if_neg (by omega)] at hS; exact hS
  rw [hm 124 (by decide), hm 133 (by decide), hZ.1] at h1
  have tt := ycl ht
  have hi : Int32.toNatClampNeg c - yQb M < S.length := by unfold yQb at hb ⊢; omega
  obtain ⟨e, he⟩ : ∃ e, S[Int32.toNatClampNeg c - yQb M]? = some e := ⟨_, List.getElem?_eq_getElem hi⟩
  obtain ⟨b1, b2, b3⟩ := hZ.2 _ e he
  have hc : 10 * Int32.toNatClampNeg (M.1 124 15) + (Int32.toNatClampNeg c - yQb M) = Int32.toNatClampNeg c := by unfold yQb at hb ⊢; omega
  rw [hc] at b1 b2 b3
  have k := st e (by rw [hm 134 (by decide)]; exact b1) (by rw [hm 135 (by decide)]; exact b2) (fun z => by
    rw [hm 136 (by decide), hm 137 (by decide)]
    refine ⟨?_, hg e (List.mem_of_getElem? he) z _⟩
    have : zsl10 X = zsl10 M := by
      funext a b
      unfold zsl10
      rw [hm 138 (by decide)]
    rw [this]; exact (b3 z).1)
  rw [y0f_e hm] at k
  rw [show Int32.toNatClampNeg c' - yQb M = (Int32.toNatClampNeg c - yQb M) + 1 by omega, ysum_t _ he, k, r]; omega
theorem yq_2 {X : pvM} {w : Int32} {c : Nat} {s : Int} {sum : Int32} (g : (2 : Int32) ≤ X.1 134 c) (hs : s = sum.toInt) (e : yCl) (h : e.1 < 4 ∧ X.1 134 c = nI e.1) : s = sum.toInt + ytm (y0f X w) e := by
  have u := (zi_le _ _).mp g
  rw [h.2, nI_toInt (by omega)] at u
  have u2 : (2 : Int32).toInt = 2 := by decide
  unfold ytm
  rw [if_neg (by omega)]; omega
theorem yq_n {X : pvM} {w : Int32} {c : Nat} (g : ¬ (2 : Int32) ≤ X.1 134 c) {e : yCl} (h : e.1 < 4 ∧ X.1 134 c = nI e.1) : e.1 < 2 := by
  have u := (not_congr (zi_le _ _)).mp g
  rw [h.2, nI_toInt (by omega)] at u
  have u2 : (2 : Int32).toInt = 2 := by decide
  omega
theorem yq_0 {X : pvM} {w c x sum : Int32} {s : Int} (g : ¬ (2 : Int32) ≤ X.1 134 (Int32.toNatClampNeg c)) (d : yHo X c w x) (z : x = 0) (hs : s = sum.toInt) (e : yCl) (h : e.1 < 4 ∧ X.1 134 (Int32.toNatClampNeg c) = nI e.1) (k : e.1 < 2 → zsl10 X (Int32.toNatClampNeg (X.1 136 (Int32.toNatClampNeg c))) (Int32.toNatClampNeg (X.1 137 (Int32.toNatClampNeg c))) = e.2.2 ∧ ∃ v : Bool, zr10 (y0f X w) e.2.2 [] = [v]) : s = sum.toInt + ytm (y0f X w) e := by
  have e2 := yq_n (w := w) g h
  obtain ⟨k1, v, k2⟩ := k e2
  have d2 := d v (by rw [k1]; exact k2)
  cases v
  · unfold ytm ytr
    rw [if_pos e2, k2, if_neg (by decide)]; omega
  · rw [z] at d2; exact absurd d2 (by decide)
theorem yq_1 {X X' : pvM} {w c x sum : Int32} {s : Int} (hX : ∀ a : Nat, a ≠ 141 → X'.1 a = X.1 a) (g : ¬ (2 : Int32) ≤ X.1 134 (Int32.toNatClampNeg c)) (d : yHo X c w x) (z : ¬ x = 0) (hn : 0 ≤ (X'.1 135 (Int32.toNatClampNeg c)).toInt ∧ (X'.1 135 (Int32.toNatClampNeg c)).toInt ≤ 99) (hs : (X'.1 134 (Int32.toNatClampNeg c) = 0 ∧ s = sum.toInt + (X'.1 135 (Int32.toNatClampNeg c)).toInt) ∨ (¬ X'.1 134 (Int32.toNatClampNeg c) = 0 ∧ s = sum.toInt - (X'.1 135 (Int32.toNatClampNeg c)).toInt)) (e : yCl) (h : e.1 < 4 ∧ X.1 134 (Int32.toNatClampNeg c) = nI e.1) (h5 : X.1 135 (Int32.toNatClampNeg c) = e.2.1) (k : e.1 < 2 → zsl10 X (Int32.toNatClampNeg (X.1 136 (Int32.toNatClampNeg c))) (Int32.toNatClampNeg (X.1 137 (Int32.toNatClampNeg c))) = e.2.2 ∧ ∃ v : Bool, zr10 (y0f X w) e.2.2 [] = [v]) : s = sum.toInt + ytm (y0f X w) e := by
  have e2 := yq_n (w := w) g h
  obtain ⟨k1, v, k2⟩ := k e2
  have d2 := d v (by rw [k1]; exact k2)
  rw [hX 134 (by decide), hX 135 (by decide), h.2, h5] at hs
  rw [hX 135 (by decide), h5] at hn
  cases v
  · exact absurd d2 z
  · unfold ytm ytr zam
    rw [if_pos e2, k2, if_pos (show [true].headD false = true from rfl)]
    rcases hs with ⟨a, b⟩ | ⟨a, b⟩
    · have := congrArg Int32.toInt a
      rw [nI_toInt (by omega)] at this
      have u0 : (0 : Int32).toInt = 0 := by decide
      rw [if_pos (by omega)]; exact b
    · have : ¬ e.1 = 0 := fun q => a (by rw [q]; rfl)
      rw [if_neg this]
      have u0 : (0 : Int32).toInt = 0 := by decide
      have n := zsub 0 e.2.1 (by omega) (by omega)
      rw [Int32.zero_sub] at n
      omega
def yRF (M : pvM) (w x : Int32) : Prop := ∀ S : List yCl, yTS M S → yGd S → x.toInt = yRn (y0f M w) S
theorem yQI_e {M X : pvM} {w sum c x : Int32} (h : yQI M X w sum c) (h0 : 0 ≤ c.toInt) (h1 : (M.1 124 15).toInt < 0 ∨ 10 * (X.1 124 15).toInt + (X.1 133 (Int32.toNatClampNeg (X.1 124 15))).toInt ≤ c.toInt) (hx : x.toInt = max 0 sum.toInt) : yRF M w x := fun S hS hg => by
  obtain ⟨hm, hb, hs⟩ := h
  have r := hs S hS hg
  have tc := ycl h0
  have l : S.take (Int32.toNatClampNeg c - yQb M) = S := by
    by_cases z : (M.1 124 15).toInt < 0
    · unfold yTS at hS
      rw [if_pos z] at hS
      rw [hS]; exact List.take_nil
    · unfold yTS at hS
      rw [if_neg z] at hS
      have t := ycl (x := M.1 124 15) (by omega)
      have h2 := h1.resolve_left z
      rw [hm 124 (by decide), hm 133 (by decide), hS.1] at h2
      refine List.take_of_length_le ?_
      unfold yQb
      omega
  rw [l] at r
  unfold yRn
  rw [hx, r]
  split <;> omega
theorem yneg {x : Int32} (h : 0 ≤ x.toInt ∧ x.toInt ≤ 99) : (-x).toInt = -x.toInt := by
  have u0 : (0 : Int32).toInt = 0 := by decide
  have n := zsub 0 x (by omega) (by omega)
  rw [Int32.zero_sub] at n
  omega
/-! RAIN laid -/
def yR0 (M : pvM) (S : List yCl) (w t : Nat) : Int := yRn (yph (nI w) (M.1 125 w) (M.1 127 w) (M.1 128 w) (M.1 124 4) (nI t)) S
def yF0 (M X : pvM) : Prop := ∀ a b : Nat, a ≠ 141 → a ≠ 142 → (a ≠ 124 ∨ b ≠ 32) → X.1 a b = M.1 a b
def yLd (M X : pvM) (l w : Nat) : Prop := ∀ S : List yCl, yTS M S → yGd S → ∀ v t : Nat, v < w → t < l → (X.1 142 (99 * v + t)).toInt = yR0 M S v t
def yLO (M X : pvM) (l w : Int32) : Prop := yF0 M X ∧ yLd M X (Int32.toNatClampNeg l) (Int32.toNatClampNeg w)
def yLi (M X : pvM) (w n : Nat) : Prop := ∀ S : List yCl, yTS M S → yGd S → ∀ t : Nat, t < n → (X.1 142 (99 * w + t)).toInt = yR0 M S w t
def yLI (M X : pvM) (l w : Int32) : Prop := yF0 M X ∧ yLd M X (Int32.toNatClampNeg l) (Int32.toNatClampNeg w) ∧ yLi M X (Int32.toNatClampNeg w) (Int32.toNatClampNeg (X.1 124 32))
theorem yLO_0 (M : pvM) (l : Int32) : yLO M M l 0 := ⟨fun _ _ _ _ _ => rfl, fun S _ _ v t h => by rw [ycl0] at h; exact absurd h (by omega)⟩
theorem yLI_0 {M X Y : pvM} {l w : Int32} (h : yLO M X l w) (e : Y = pvu X 124 32 0) : yLI M Y l w := ⟨fun a b h1 h2 h3 => (pvu_n e a b (by omega)).trans (h.1 a b h1 h2 h3), fun S hS hg v t hv ht => by rw [pvu_n e 142 _ (Or.inl (by decide))]; exact h.2 S hS hg v t hv ht, fun S _ _ t ht => by rw [pvu_s e, ycl0] at ht; exact absurd ht (by omega)⟩
theorem yLO_s {M X : pvM} {l w w' : Int32} (h : yLI M X l w) (h0 : 0 ≤ w.toInt) (h2 : w'.toInt = w.toInt + 1) (hl : l.toInt ≤ (X.1 124 32).toInt) : yLO M X l w' := by
  have t := ycl h0
  have t2 : Int32.toNatClampNeg w' = Int32.toNatClampNeg w + 1 := by
    have := ycl (x := w') (by omega)
    omega
  refine ⟨h.1, fun S hS hg v u hv hu => ?_⟩
  by_cases c : v = Int32.toNatClampNeg w
  · subst c
    refine h.2.2 S hS hg u ?_
    have : Int32.toNatClampNeg l ≤ Int32.toNatClampNeg (X.1 124 32) := by show l.toInt.toNat ≤ (X.1 124 32).toInt.toNat; omega
    omega
  · exact h.2.1 S hS hg v u (by omega) hu
theorem yTS_F {M X : pvM} (h : yF0 M X) {S : List yCl} (k : yTS M S) : yTS X S := by
  have e : X.1 124 15 = M.1 124 15 := h 124 15 (by decide) (by decide) (by decide)
  unfold yTS at k ⊢
  rw [e]
  split
  · next c => rw [if_pos c] at k; exact k
  · next c => rw [if_neg c] at k; exact zHR_k k (fun a b h1 h2 => h a b (by omega) (by omega) (by omega))
theorem yLI_s {M X Y Z W : pvM} {l w x i : Int32} (h : yLI M X l w) (hw : 0 ≤ w.toInt ∧ w.toInt ≤ 6) (hl : l.toInt ≤ 99) (hs : 0 ≤ (X.1 124 32).toInt) (hlt : (X.1 124 32).toInt < l.toInt) (hY : ∀ a : Nat, a ≠ 141 → Y.1 a = X.1 a) (d : yRF X w x) (ei : i.toInt = 99 * w.toInt + (X.1 124 32).toInt) (e1 : Z = pvu Y 142 (Int32.toNatClampNeg i) x) (v' : Int32) (e2 : W = pvu Z 124 32 v') (hv : v'.toInt = (X.1 124 32).toInt + 1) : yLI M W l w := by
  obtain ⟨f, a, b⟩ := h
  have tw := ycl hw.1
  have ts := ycl hs
  have ti := ycl (x := i) (by omega)
  have tv := ycl (x := v') (by omega)
  have tl := ycl (x := l) (by omega)
  have c : ∀ q k : Nat, q ≠ 141 → (q ≠ 142 ∨ k ≠ Int32.toNatClampNeg i) → (q ≠ 124 ∨ k ≠ 32) → W.1 q k = X.1 q k := fun q k h1 h2 h3 => (pvu_n e2 q k h3).trans ((pvu_n e1 q k h2).trans (congrFun (hY q h1) k))
  have cw : W.1 142 (Int32.toNatClampNeg i) = x := (pvu_n e2 142 _ (Or.inl (by decide))).trans (pvu_s e1)
  refine ⟨fun q k h1 h2 h3 => (c q k h1 (Or.inl h2) h3).trans (f q k h1 h2 h3), fun S hS hg v t hv1 ht => ?_, fun S hS hg t ht => ?_⟩
  · rw [c 142 _ (by decide) (Or.inr (by omega)) (Or.inl (by decide))]
    exact a S hS hg v t hv1 ht
  · rw [pvu_s e2] at ht
    by_cases z : t = Int32.toNatClampNeg (X.1 124 32)
    · subst z
      rw [show 99 * Int32.toNatClampNeg w + Int32.toNatClampNeg (X.1 124 32) = Int32.toNatClampNeg i by omega, cw, d S (yTS_F f hS) hg]
      have ew : nI (Int32.toNatClampNeg w) = w := (zi_eq _ _).mpr (by rw [nI_toInt (by omega)]; omega)
      have es : nI (Int32.toNatClampNeg (X.1 124 32)) = X.1 124 32 := (zi_eq _ _).mpr (by rw [nI_toInt (by omega)]; omega)
      unfold yR0 y0f
      rw [ew, es, f 125 _ (by decide) (by decide) (Or.inl (by decide)), f 127 _ (by decide) (by decide) (Or.inl (by decide)), f 128 _ (by decide) (by decide) (Or.inl (by decide)), f 124 4 (by decide) (by decide) (by decide)]
    · rw [c 142 _ (by decide) (Or.inr (by omega)) (Or.inl (by decide))]
      exact b S hS hg t (by omega)
/-- what layRain does -/
def yLR (M X : pvM) : Prop := yF0 M X ∧ yLd M X (Int32.toNatClampNeg (zlO M 3 15)) (Int32.toNatClampNeg (M.1 124 0))
theorem yLR_i {M X Y : pvM} {l w : Int32} (h : yLO M X l w) (hl : l = zlO M 3 15) (hw : (X.1 124 0).toInt ≤ w.toInt) (e : Y = pvu X 124 32 0) : yLR M Y := by
  subst hl
  rw [h.1 124 0 (by decide) (by decide) (by decide)] at hw
  refine ⟨fun a b h1 h2 h3 => (pvu_n e a b (by omega)).trans (h.1 a b h1 h2 h3), fun S hS hg v t hv ht => ?_⟩
  rw [pvu_n e 142 _ (Or.inl (by decide))]
  refine h.2 S hS hg v t ?_ ht
  have : Int32.toNatClampNeg (M.1 124 0) ≤ Int32.toNatClampNeg w := by show (M.1 124 0).toInt.toNat ≤ w.toInt.toNat; omega
  omega
/-! HARM of a MINUTE, the reference -/
def yo0 (M : pvM) (n : Nat) : Nat → Int
  | 0 => 0
  | w + 1 => if w ≠ n ∧ M.1 125 w = 4 then max (yo0 M n w) (M.1 143 w).toInt else yo0 M n w
theorem yo0_g {M : pvM} {n o : Nat} (c : o ≠ n ∧ M.1 125 o = 4) : ∀ {W : Nat}, o < W → (M.1 143 o).toInt ≤ yo0 M n W
  | 0, h => absurd h (by omega)
  | W + 1, h => by
    show _ ≤ if _ then _ else _
    by_cases z : o = W
    · subst z
      rw [if_pos c]; exact Int.le_max_right _ _
    · have i := yo0_g c (W := W) (by omega)
      split
      · exact Int.le_trans i (Int.le_max_left _ _)
      · exact i
def yJI (M : pvM) (n m w : Int32) : Prop := w.toInt ≤ (M.1 124 0).toInt ∧ yo0 M (Int32.toNatClampNeg n) (Int32.toNatClampNeg w) ≤ m.toInt
theorem yJI_0 {M : pvM} {n m : Int32} (hok : pvOk M) (h : 0 ≤ m.toInt) : yJI M n m 0 := by
  have r := pvok_r hok 124 0 (lo := 0) (hi := 7) rfl
  have u0 : (0 : Int32).toInt = 0 := by decide
  refine ⟨by omega, ?_⟩
  rw [ycl0]; exact h
theorem yJI_s {M : pvM} {n m w w' : Int32} (h : yJI M n m w) (h0 : 0 ≤ w.toInt) (hw : w.toInt < (M.1 124 0).toInt) (h2 : w'.toInt = w.toInt + 1) (c : w = n ∨ ¬ M.1 125 (Int32.toNatClampNeg w) = 4 ∨ (M.1 143 (Int32.toNatClampNeg w)) ≤ m) : yJI M n m w' := by
  have t := ycl h0
  have t2 : Int32.toNatClampNeg w' = Int32.toNatClampNeg w + 1 := by
    have := ycl (x := w') (by omega)
    omega
  refine ⟨by omega, ?_⟩
  rw [t2]
  show (if _ then _ else _) ≤ _
  have i := h.2
  split
  · next z =>
    rcases c with c | c | c
    · exact absurd (by rw [c]) z.1
    · exact absurd z.2 c
    · exact Int.max_le.mpr ⟨i, (zi_le _ _).mp c⟩
  · exact i
def yJO (M : pvM) (n m x : Int32) : Prop := x = if m.toInt < yo0 M (Int32.toNatClampNeg n) (Int32.toNatClampNeg (M.1 124 0)) then 1 else 0
theorem yJO_n {M : pvM} {n m w : Int32} (h : yJI M n m w) (hw : (M.1 124 0).toInt ≤ w.toInt) : yJO M n m 0 := by
  have e : w = M.1 124 0 := (zi_eq _ _).mpr (by have := h.1; omega)
  subst e
  have := h.2
  unfold yJO
  rw [if_neg (by omega)]
theorem yJO_y {M : pvM} {n m w : Int32} (h0 : 0 ≤ w.toInt) (hn : 0 ≤ n.toInt) (hw : w.toInt < (M.1 124 0).toInt) (c : ¬ w = n) (c2 : M.1 125 (Int32.toNatClampNeg w) = 4) (c3 : ¬ (M.1 143 (Int32.toNatClampNeg w)) ≤ m) : yJO M n m 1 := by
  have t := ycl h0
  have tn := ycl hn
  have tw := ycl (x := M.1 124 0) (by omega)
  have c' := (not_congr (zi_eq _ _)).mp c
  have g := yo0_g (M := M) (n := Int32.toNatClampNeg n) (o := Int32.toNatClampNeg w) ⟨by omega, c2⟩ (W := Int32.toNatClampNeg (M.1 124 0)) (by omega)
  have u := (not_congr (zi_le _ _)).mp c3
  unfold yJO
  rw [if_pos (by omega)]
def yr0 (M : pvM) (w : Nat) : Nat → Int32 := fun p => M.1 130 (4 * w + p)
def y0h (M : pvM) (S : List yCl) (w : Nat) : Int → Int := yhm (M.1 125 w) (M.1 126 w) (M.1 124 4) (yr0 M w) (M.1 124 3).toInt (zlO M 3 15).toInt (fun t => yR0 M S w t) (M.1 143 w).toInt (yo0 M w (Int32.toNatClampNeg (M.1 124 0)))
def yLaid (M : pvM) : Prop := yLd M M (Int32.toNatClampNeg (zlO M 3 15)) (Int32.toNatClampNeg (M.1 124 0))
def yHm (M : pvM) (n1 n2 x : Int32) : Prop := yLaid M → n1.toInt < (M.1 124 0).toInt → ∀ S : List yCl, yTS M S → yGd S → x.toInt = y0h M S (Int32.toNatClampNeg n1) n2.toInt
theorem yHm_z {M : pvM} {n1 n2 l : Int32} (hok : pvOk M) (h2 : 0 ≤ n2.toInt ∧ n2.toInt ≤ 200000) (c : (n2 - M.1 124 3) < 0 ∨ (l = zlO M 3 15 ∧ l ≤ (n2 - M.1 124 3)) ∨ (M.1 143 (Int32.toNatClampNeg n1)) ≤ n2) : yHm M n1 n2 0 := fun _ _ S _ _ => by
  have r := pvok_r hok 124 3 (lo := 0) (hi := 108) rfl
  have d := zsub n2 (M.1 124 3) (by omega) (by omega)
  have u0 : (0 : Int32).toInt = 0 := by decide
  unfold y0h yhm
  rw [if_neg (fun z => ?_)]
  · exact u0
  · rcases c with c | ⟨c, c2⟩ | c
    · have := (zi_lt _ _).mp c; omega
    · have := (zi_le _ _).mp c2; rw [c] at this; omega
    · have := (zi_le _ _).mp c; omega
theorem yHm_i {M : pvM} {n1 n2 l i x : Int32} (hok : pvOk M) (h1 : 0 ≤ n1.toInt ∧ n1.toInt ≤ 6) (h2 : 0 ≤ n2.toInt ∧ n2.toInt ≤ 200000) (c1 : ¬ (n2 - M.1 124 3) < 0) (el : l = zlO M 3 15) (hl : l.toInt ≤ 99) (c2 : ¬ l ≤ (n2 - M.1 124 3)) (c3 : ¬ (M.1 143 (Int32.toNatClampNeg n1)) ≤ n2) (ei : i.toInt = 99 * n1.toInt + (n2 - M.1 124 3).toInt) (hx : x.toInt = yhb (M.1 125 (Int32.toNatClampNeg n1)) (M.1 126 (Int32.toNatClampNeg n1)) (M.1 124 4) (M.1 142 (Int32.toNatClampNeg i)).toInt + ((if M.1 125 (Int32.toNatClampNeg n1) = 6 then yr4 (yr0 M (Int32.toNatClampNeg n1)) n2.toInt else 0) + (if M.1 125 (Int32.toNatClampNeg n1) = 4 ∧ n2.toInt < yo0 M (Int32.toNatClampNeg n1) (Int32.toNatClampNeg (M.1 124 0)) then (M.1 126 (Int32.toNatClampNeg n1)).toInt else 0))) : yHm M n1 n2 x := fun hL hw S hS hg => by
  have r := pvok_r hok 124 3 (lo := 0) (hi := 108) rfl
  have d := zsub n2 (M.1 124 3) (by omega) (by omega)
  have u0 : (0 : Int32).toInt = 0 := by decide
  have v1 := (not_congr (zi_lt _ _)).mp c1
  have v2 := (not_congr (zi_le _ _)).mp c2
  have v3 := (not_congr (zi_le _ _)).mp c3
  have t1 := ycl h1.1
  have tw := ycl (x := M.1 124 0) (by omega)
  have tl := ycl (x := l) (by omega)
  have ti := ycl (x := i) (by omega)
  rw [el] at v2 tl
  have q := hL S hS hg (Int32.toNatClampNeg n1) (n2.toInt - (M.1 124 3).toInt).toNat (by omega) (by omega)
  rw [show 99 * Int32.toNatClampNeg n1 + (n2.toInt - (M.1 124 3).toInt).toNat = Int32.toNatClampNeg i by omega] at q
  unfold y0h yhm
  rw [if_pos ⟨by omega, by omega, by omega⟩, hx, q]
theorem yx_2 {k v s : Int32} {n P Q x m od : Int} (h : k = 2) (hx : x = n / 2) : x = yhb k v s n + ((if k = 6 then P else 0) + (if k = 4 ∧ m < od then Q else 0)) := by
  subst h
  unfold yhb
  rw [if_pos rfl, if_neg (by decide), if_neg (fun z => absurd z.1 (by decide))]; omega
theorem yx_3 {k v s : Int32} {n P Q x m od : Int} (h : k = 3) (hx : x = 2 * n) : x = yhb k v s n + ((if k = 6 then P else 0) + (if k = 4 ∧ m < od then Q else 0)) := by
  subst h
  unfold yhb
  rw [if_neg (by decide), if_pos rfl, if_neg (by decide), if_neg (fun z => absurd z.1 (by decide))]; omega
theorem yx_4n {k v s : Int32} {n P Q x m od : Int} (h : k = 4) (c : ¬ m < od) (hx : x = n) : x = yhb k v s n + ((if k = 6 then P else 0) + (if k = 4 ∧ m < od then Q else 0)) := by
  subst h
  unfold yhb
  rw [if_neg (by decide), if_neg (by decide), if_pos rfl, if_neg (by decide), if_neg (fun z => c z.2)]; omega
theorem yx_4y {k v s : Int32} {n P Q x m od : Int} (h : k = 4) (c : m < od) (hx : x = n + Q) : x = yhb k v s n + ((if k = 6 then P else 0) + (if k = 4 ∧ m < od then Q else 0)) := by
  subst h
  unfold yhb
  rw [if_neg (by decide), if_neg (by decide), if_pos rfl, if_neg (by decide), if_pos ⟨rfl, c⟩]; omega
theorem yx_5y {k v s : Int32} {n P Q x m od : Int} (h : k = 5) (c : s = v - v / 4 * 4) (hx : x = n / 2) : x = yhb k v s n + ((if k = 6 then P else 0) + (if k = 4 ∧ m < od then Q else 0)) := by
  subst h
  unfold yhb
  rw [if_neg (by decide), if_neg (by decide), if_neg (by decide), if_pos rfl, if_pos c, if_neg (by decide), if_neg (fun z => absurd z.1 (by decide))]; omega
theorem yx_5n {k v s : Int32} {n P Q x m od : Int} (h : k = 5) (c : ¬ s = v - v / 4 * 4) (hx : x = 0) : x = yhb k v s n + ((if k = 6 then P else 0) + (if k = 4 ∧ m < od then Q else 0)) := by
  subst h
  unfold yhb
  rw [if_neg (by decide), if_neg (by decide), if_neg (by decide), if_pos rfl, if_neg c, if_neg (by decide), if_neg (fun z => absurd z.1 (by decide))]; omega
theorem yx_6 {k v s : Int32} {n P Q x m od : Int} (h : k = 6) (hx : x = 2 * n + P) : x = yhb k v s n + ((if k = 6 then P else 0) + (if k = 4 ∧ m < od then Q else 0)) := by
  subst h
  unfold yhb
  rw [if_neg (by decide), if_neg (by decide), if_neg (by decide), if_neg (by decide), if_pos rfl, if_pos rfl, if_neg (fun z => absurd z.1 (by decide))]; omega
theorem yx_o {k v s : Int32} {n P Q x m od : Int} (h2 : ¬ k = 2) (h3 : ¬ k = 3) (h4 : ¬ k = 4) (h5 : ¬ k = 5) (h6 : ¬ k = 6) (hx : x = n) : x = yhb k v s n + ((if k = 6 then P else 0) + (if k = 4 ∧ m < od then Q else 0)) := by
  unfold yhb
  rw [if_neg h2, if_neg h3, if_neg h4, if_neg h5, if_neg h6, if_neg h6, if_neg (fun z => h4 z.1)]; omega
theorem yr0_i {M : pvM} {n1 n2 i : Int32} (h1 : 0 ≤ n1.toInt) (h2 : 0 ≤ n2.toInt) (ei : i.toInt = 4 * n1.toInt + n2.toInt % 4) : (M.1 130 (Int32.toNatClampNeg i)).toInt = yr4 (yr0 M (Int32.toNatClampNeg n1)) n2.toInt := by
  have t := ycl h1
  have ti := ycl (x := i) (by omega)
  unfold yr4 yr0
  rw [show 4 * Int32.toNatClampNeg n1 + (n2.toInt % 4).toNat = Int32.toNatClampNeg i by omega]
theorem yJO_0 {M : pvM} {n m x : Int32} (d : yJO M n m x) (z : x = 0) : ¬ m.toInt < yo0 M (Int32.toNatClampNeg n) (Int32.toNatClampNeg (M.1 124 0)) := fun c => by
  unfold yJO at d
  rw [if_pos c, z] at d; exact absurd d (by decide)
theorem yJO_1 {M : pvM} {n m x : Int32} (d : yJO M n m x) (z : ¬ x = 0) : m.toInt < yo0 M (Int32.toNatClampNeg n) (Int32.toNatClampNeg (M.1 124 0)) := Classical.byContradiction fun c => by
  unfold yJO at d
  rw [if_neg c] at d; exact z d
theorem yrem4 {n : Int32} (h : 0 ≤ n.toInt) : (n - n / 4 * 4).toInt = n.toInt % 4 := by
  have u := zdiv_p n 4 h (by decide) (by decide)
  have e0 : nI 4 = (4 : Int32) := rfl
  rw [e0] at u
  have b := zbnd n
  have u4 : (4 : Int32).toInt = 4 := by decide
  have m := zmul (n / 4) 4 (by rw [u, u4]; omega) (by rw [u, u4]; omega)
  rw [u, u4] at m
  have s := zsub n (n / 4 * 4) (by rw [m]; omega) (by rw [m]; omega)
  rw [s, m]; omega
/-! HARM from a MINUTE on, the reference -/
def yat (M : pvM) (S : List yCl) (m : Int) : Nat → Int
  | 0 => 0
  | w + 1 => yat M S m w + y0h M S w m
def yatW (M : pvM) (S : List yCl) (m : Int) : Int := yat M S m (Int32.toNatClampNeg (M.1 124 0))
def yTI2 (M : pvM) (n1 s w : Int32) : Prop := w.toInt ≤ (M.1 124 0).toInt ∧ (yLaid M → ∀ S : List yCl, yTS M S → yGd S → s.toInt = yat M S n1.toInt (Int32.toNatClampNeg w))
theorem yTI2_0 {M : pvM} (hok : pvOk M) (n1 : Int32) : yTI2 M n1 0 0 := by
  have r := pvok_r hok 124 0 (lo := 0) (hi := 7) rfl
  have u0 : (0 : Int32).toInt = 0 := by decide
  exact ⟨by omega, fun _ S _ _ => by rw [ycl0]; rfl⟩
theorem yTI2_s {M : pvM} {n1 s s' w w' x : Int32} (h : yTI2 M n1 s w) (h0 : 0 ≤ w.toInt) (hw : w.toInt < (M.1 124 0).toInt) (h2 : w'.toInt = w.toInt + 1) (d : yHm M w n1 x) (hs : s'.toInt = s.toInt + x.toInt) : yTI2 M n1 s' w' := by
  have t := ycl h0
  have t2 : Int32.toNatClampNeg w' = Int32.toNatClampNeg w + 1 := by
    have := ycl (x := w') (by omega)
    omega
  refine ⟨by omega, fun hL S hS hg => ?_⟩
  rw [t2, hs, h.2 hL S hS hg, d hL hw S hS hg]; rfl
def yHt (M : pvM) (n1 x : Int32) : Prop := yLaid M → ∀ S : List yCl, yTS M S → yGd S → x.toInt = yatW M S n1.toInt
theorem yTI2_e {M : pvM} {n1 s w : Int32} (h : yTI2 M n1 s w) (hw : (M.1 124 0).toInt ≤ w.toInt) : yHt M n1 s := by
  have e : w = M.1 124 0 := (zi_eq _ _).mpr (by have := h.1; omega)
  subst e
  exact h.2
theorem yat_z {M : pvM} {S : List yCl} {m : Int} (h : ¬ ((M.1 124 3).toInt ≤ m ∧ m < (M.1 124 3).toInt + (zlO M 3 15).toInt)) : ∀ w : Nat, yat M S m w = 0
  | 0 => rfl
  | w + 1 => by
    show yat M S m w + y0h M S w m = 0
    rw [yat_z h w]
    unfold y0h yhm
    rw [if_neg (fun z => h ⟨z.1, z.2.1⟩)]; rfl
def yst (M : pvM) (n1 : Int32) : Int := max n1.toInt (M.1 124 3).toInt
def yFI (M : pvM) (n1 n2 s m : Int32) : Prop := yst M n1 ≤ m.toInt ∧ (m.toInt = yst M n1 ∨ m.toInt ≤ n2.toInt) ∧ (yLaid M → ∀ S : List yCl, yTS M S → yGd S → s.toInt = ysg (yatW M S) (yst M n1) (m.toInt - yst M n1).toNat)
theorem yFI_0 {M : pvM} {n1 n2 m : Int32} (h : m.toInt = yst M n1) : yFI M n1 n2 0 m := ⟨by omega, Or.inl h, fun _ S _ _ => by
  rw [h, show (yst M n1 - yst M n1).toNat = 0 by omega]; rfl⟩
theorem yFI_s {M : pvM} {n1 n2 s s' m m' x : Int32} (h : yFI M n1 n2 s m) (hm : m.toInt < n2.toInt) (h2 : m'.toInt = m.toInt + 1) (d : yHt M m x) (hs : s'.toInt = s.toInt + x.toInt) : yFI M n1 n2 s' m' := by
  obtain ⟨a, b, c⟩ := h
  refine ⟨by omega, Or.inr (by omega), fun hL S hS hg => ?_⟩
  rw [show (m'.toInt - yst M n1).toNat = (m.toInt - yst M n1).toNat + 1 by omega, hs, c hL S hS hg, d hL S hS hg]
  show _ = ysg (yatW M S) (yst M n1) (m.toInt - yst M n1).toNat + yatW M S (yst M n1 + ((m.toInt - yst M n1).toNat : Int))
  rw [show yst M n1 + ((m.toInt - yst M n1).toNat : Int) = m.toInt by omega]
def yHf (M : pvM) (n1 n2 x : Int32) : Prop := yLaid M → ∀ S : List yCl, yTS M S → yGd S → x.toInt = ysg (yatW M S) n1.toInt (n2.toInt - n1.toInt).toNat
theorem yFI_e {M : pvM} {n1 n2 s m l : Int32} (h : yFI M n1 n2 s m) (e : n2.toInt ≤ m.toInt ∨ (l = zlO M 3 15 ∧ (M.1 124 3).toInt + l.toInt ≤ m.toInt)) : yHf M n1 n2 s := fun hL S hS hg => by
  obtain ⟨a, b, c⟩ := h
  rw [c hL S hS hg]
  have e' : n2.toInt ≤ m.toInt ∨ (M.1 124 3).toInt + (zlO M 3 15).toInt ≤ m.toInt := by
    rcases e with e | ⟨e1, e2⟩
    · exact Or.inl e
    · rw [e1] at e2; exact Or.inr e2
  have z : ∀ q : Int, ¬ ((M.1 124 3).toInt ≤ q ∧ q < (M.1 124 3).toInt + (zlO M 3 15).toInt) → yatW M S q = 0 := fun q hq => yat_z hq _
  have s0 : n1.toInt ≤ yst M n1 ∧ (M.1 124 3).toInt ≤ yst M n1 ∧ (yst M n1 = n1.toInt ∨ yst M n1 = (M.1 124 3).toInt) := by unfold yst; omega
  generalize yst M n1 = st at *
  by_cases g : m.toInt ≤ n2.toInt
  · rw [show (n2.toInt - n1.toInt).toNat = (st - n1.toInt).toNat + ((m.toInt - st).toNat + (n2.toInt - m.toInt).toNat) by omega, ysg_a, ysg_a, show n1.toInt + ((st - n1.toInt).toNat : Int) = st by omega, show st + ((m.toInt - st).toNat : Int) = m.toInt by omega, ysg_z (a := n1.toInt) (fun q h1 h2 => z q (by omega)), ysg_z (a := m.toInt) (fun q h1 h2 => z q (by omega))]
    omega
  · rw [show (m.toInt - st).toNat = 0 by omega, ysg_z (a := n1.toInt) (fun q h1 h2 => z q (by omega))]
    rfl
/-- COST -/
def yC0 (M : pvM) (x : Int32) : Prop := yLaid M → ∀ S : List yCl, yTS M S → yGd S → x.toInt = ysg (yatW M S) (M.1 124 1).toInt ((M.1 124 3).toInt + (zlO M 3 15).toInt - (M.1 124 1).toInt).toNat
theorem yC0_i {M : pvM} {e l x : Int32} (d : yHf M (M.1 124 1) e x) (hl : l = zlO M 3 15) (he : e.toInt = (M.1 124 3).toInt + l.toInt) : yC0 M x := fun hL S hS hg => by
  have := d hL S hS hg
  rw [he, hl] at this
  exact this
/-- open or SHUT from now on -/
def yn0 (M : pvM) (w : Nat) : Int32 := if M.1 131 w = 0 then 99999 else -1
def yOp (M X : pvM) (i : Int32) : Prop := (∀ a : Nat, a ≠ 143 → X.1 a = M.1 a) ∧ ∀ w : Nat, w < Int32.toNatClampNeg i → X.1 143 w = yn0 M w
theorem yOp_0 (M : pvM) : yOp M M 0 := ⟨fun _ _ => rfl, fun w h => by rw [ycl0] at h; exact absurd h (by omega)⟩
theorem yOp_s {M Y X : pvM} {i i' v : Int32} (h : yOp M Y i) (h0 : 0 ≤ i.toInt) (h2 : i'.toInt = i.toInt + 1) (e : X = pvu Y 143 (Int32.toNatClampNeg i) v) (hv : (Y.1 131 (Int32.toNatClampNeg i) = 0 ∧ v = 99999) ∨ (¬ Y.1 131 (Int32.toNatClampNeg i) = 0 ∧ v = -1)) : yOp M X i' := by
  have t := ycl h0
  have t2 := ycl (x := i') (by omega)
  refine ⟨fun a ha => (funext fun b => pvu_n e a b (Or.inl ha)).trans (h.1 a ha), fun w hw => ?_⟩
  by_cases c : w = Int32.toNatClampNeg i
  · subst c
    rw [pvu_s e]
    rw [h.1 131 (by decide)] at hv
    unfold yn0
    rcases hv with ⟨k, k2⟩ | ⟨k, k2⟩
    · rw [if_pos k, k2]
    · rw [if_neg k, k2]
  · exact (pvu_n e 143 w (Or.inr c)).trans (h.2 w (by omega))
def yOn (M X : pvM) : Prop := (∀ a : Nat, a ≠ 143 → X.1 a = M.1 a) ∧ ∀ w : Nat, w < 7 → X.1 143 w = yn0 M w
theorem yOp_e {M X : pvM} {i : Int32} (h : yOp M X i) (hi : 7 ≤ i.toInt) : yOn M X := ⟨h.1, fun w hw => h.2 w (by
  have := ycl (x := i) (by omega)
  omega)⟩
/-! both sides say the same HARM -/
theorem yal_x {A B : pvM} {S : List yCl} {a : Int} {n : Nat} : ∀ {W : Nat}, (∀ (w : Nat) (m : Int), w < W → a ≤ m → m < a + n → y9h A S w m = y0h B S w m) → yal A S a n W = ysg (fun m => yat B S m W) a n
  | 0, _ => by
    show (0 : Int) = _
    exact (ysg_z (fun _ _ _ => rfl)).symm
  | W + 1, h => by
    show yal A S a n W + ysg (y9h A S W) a n = ysg (fun m => yat B S m W + y0h B S W m) a n
    rw [ysg_p (fun m => yat B S m W) (y0h B S W) a n, yal_x (fun w m h1 h2 h3 => h w m (by omega) h2 h3), ysg_c (fun m h2 h3 => h W m (by omega) h2 h3)]
theorem yhm_e {k v s : Int32} {row row' : Nat → Int32} {co la : Int} {R R' : Nat → Int} {sh sh' od od' m : Int} (hr : ∀ p : Nat, p < 4 → row p = row' p) (hR : ∀ t : Nat, (t : Int) < la → R t = R' t) (hs : m < sh ↔ m < sh') (ho : m < od ↔ m < od') : yhm k v s row co la R sh od m = yhm k v s row' co la R' sh' od' m := by
  unfold yhm
  simp only [hs, ho]
  by_cases c : co ≤ m ∧ m < co + la ∧ m < sh'
  · have e : yr4 row m = yr4 row' m := by
      unfold yr4
      rw [hr _ (by omega)]
    rw [if_pos c, if_pos c, hR _ (by omega), e]
  · rw [if_neg c, if_neg c]
theorem ylt_max {m a b : Int} : m < max a b ↔ (m < a ∨ m < b) := by
  rcases Int.le_total a b with h | h
  · rw [Int.max_eq_right h]
    exact ⟨Or.inr, fun z => z.elim (fun u => Int.lt_of_lt_of_le u h) id⟩
  · rw [Int.max_eq_left h]
    exact ⟨Or.inl, fun z => z.elim id (fun u => Int.lt_of_lt_of_le u h)⟩
theorem yod_e {A B : pvM} {n : Nat} {m : Int} (hm : 0 ≤ m) : ∀ {W : Nat}, (∀ o : Nat, o < W → A.1 (60 + o) 0 = B.1 125 o ∧ (m < (A.1 12 o).toInt ↔ m < (B.1 143 o).toInt)) → (m < yod A n W ↔ m < yo0 B n W)
  | 0, _ => Iff.rfl
  | W + 1, h => by
    have i := yod_e (n := n) hm (W := W) (fun o ho => h o (by omega))
    obtain ⟨k, s⟩ := h W (by omega)
    show (m < if _ then _ else _) ↔ (m < if _ then _ else _)
    rw [k]
    by_cases c : W ≠ n ∧ B.1 125 W = 4
    · rw [if_pos c, if_pos c, ylt_max, ylt_max, i, s]
    · rw [if_neg c, if_neg c]; exact i
/-- how the class and the reference tell when a WINDOW is SHUT -/
def ysh (a b : Int32) : Prop := a = b ∨ (a = 0 ∧ b = -1) ∨ (a = 1000000 ∧ b = 99999)
theorem ysh_m {a b : Int32} {m : Int} (h : ysh a b) (h0 : 0 ≤ m) (h1 : m < 99999) : m < a.toInt ↔ m < b.toInt := by
  have u0 : (0 : Int32).toInt = 0 := by decide
  have u1 : (-1 : Int32).toInt = -1 := by decide
  have u2 : (1000000 : Int32).toInt = 1000000 := by decide
  have u3 : (99999 : Int32).toInt = 99999 := by decide
  rcases h with h | ⟨h, k⟩ | ⟨h, k⟩
  · rw [h]
  · rw [h, k]; omega
  · rw [h, k]; omega
/-- all that COST looks at, the same on both sides -/
def yEq (A B : pvM) (W : Nat) : Prop := (∀ w : Nat, w < W → (A.1 (60 + w) 0 = B.1 125 w ∧ A.1 (60 + w) 1 = B.1 126 w ∧ A.1 (60 + w) 2 = B.1 127 w ∧ A.1 (60 + w) 3 = B.1 128 w) ∧ (∀ p : Nat, p < 4 → A.1 (60 + w + 7) p = B.1 130 (4 * w + p)) ∧ ysh (A.1 12 w) (B.1 143 w)) ∧ A.1 5 1 = B.1 124 4 ∧ A.1 5 2 = B.1 124 3 ∧ A.1 (yHp A) 1 = zlO B 3 15
theorem y9h_e {A B : pvM} {W w : Nat} {S : List yCl} {m : Int} (hA : pvOk A) (h : yEq A B W) (hw : w < W) (eW : Int32.toNatClampNeg (A.1 8 1) = W) (eW' : Int32.toNatClampNeg (B.1 124 0) = W) (h0 : 0 ≤ m) : y9h A S w m = y0h B S w m := by
  obtain ⟨p, s, c, l⟩ := h
  obtain ⟨⟨k, v, f, r⟩, q, t⟩ := p w hw
  have r5 := pvok_r hA 5 2 (lo := 0) (hi := 108) rfl
  have rl := yhl hA
  by_cases z : m < 99999
  · unfold y9h y0h
    rw [k, v, s, c, l, eW, eW']
    refine yhm_e q (fun x _ => ?_) (ysh_m t h0 z) (yod_e h0 (fun o ho => ⟨(p o ho).1.1, ysh_m (p o ho).2.2 h0 z⟩))
    unfold yR0
    rw [f, r]
  · unfold y9h y0h yhm
    rw [if_neg (by omega), if_neg (by rw [← c, ← l]; omega)]
/-- the same COST -/
theorem yCo_e {A B : pvM} {x y : Int32} {W : Nat} {S : List yCl} (hA : pvOk A) (d : yCo A x) (e : yC0 B y) (hW : yWS A) (hs : ¬ A.1 14 (Int32.toNatClampNeg (A.1 5 1)) = 0) (hL : yLaid B) (hS : zHC A (yHp A) S) (hT : yTS B S) (hg : yGd S) (h : yEq A B W) (eW : Int32.toNatClampNeg (A.1 8 1) = W) (eW' : Int32.toNatClampNeg (B.1 124 0) = W) (em : A.1 8 4 = B.1 124 1) (h0 : 0 ≤ (A.1 8 4).toInt) : x = y := by
  have a := d hW hs S hS
  have b := e hL S hT hg
  refine (zi_eq _ _).mpr ?_
  rw [a, b, eW, ← em, ← h.2.2.1, ← h.2.2.2]
  unfold yatW
  rw [eW']
  exact yal_x (fun w m h1 h2 h3 => y9h_e hA h h1 eW eW' (by omega))
/-! SHE goes along a row: the same walk on both sides -/
abbrev yWs := Int × Int32 × Int32 × (Nat → Int)
/-- what of a WINDOW the walk looks at: kind, takes, floor, room, SHUT -/
abbrev yWp := Nat → Int32 × Int32 × Int32 × Int32 × Int32
def yw1 (P : yWp) (st : Int) (s : yWs) (w : Nat) : yWs := if (P w).2.2.2.2 = 0 then (s.1 + (zWy st (P w).2.2.1.toInt (P w).2.2.2.1.toInt s.2.1.toInt s.2.2.1.toInt + zTm (P w).1 (P w).2.1), (P w).2.2.1, (P w).2.2.2.1, fun j => if j = w then s.1 + (zWy st (P w).2.2.1.toInt (P w).2.2.2.1.toInt s.2.1.toInt s.2.2.1.toInt + zTm (P w).1 (P w).2.1) else s.2.2.2 j) else s
def ywk (P : yWp) (st : Int) (path : Nat → Nat) (a : Nat) (s : yWs) : Nat → yWs
  | 0 => s
  | n + 1 => yw1 P st (ywk P st path a s n) (path (a + n))
/-- the walk looks at what it passes alone -/
theorem ywk_c {P Q : yWp} {st : Int} {p q : Nat → Nat} {a b : Nat} {s : yWs} : ∀ {n : Nat}, (∀ i : Nat, i < n → p (a + i) = q (b + i) ∧ P (p (a + i)) = Q (p (a + i))) → ywk P st p a s n = ywk Q st q b s n
  | 0, _ => rfl
  | n + 1, h => by
    show yw1 P st (ywk P st p a s n) (p (a + n)) = yw1 Q st (ywk Q st q b s n) (q (b + n))
    rw [ywk_c (fun i hi => h i (by omega)), ← (h n (by omega)).1]
    unfold yw1
    rw [(h n (by omega)).2]
def yGI (sp : Nat) (P : yWp) (st : Int) (path : Nat → Nat) (M X : pvM) (a : Nat) (s0 : yWs) (m f r i : Int32) : Prop := (∀ q : Nat, q ≠ sp → X.1 q = M.1 q) ∧ a ≤ Int32.toNatClampNeg i ∧ ((m.toInt, f, r, fun w => (X.1 sp w).toInt) : yWs) = ywk P st path a s0 (Int32.toNatClampNeg i - a)
theorem yGI_0 {sp : Nat} {P : yWp} {st : Int} {path : Nat → Nat} {M : pvM} {m f r i : Int32} : yGI sp P st path M M (Int32.toNatClampNeg i) (m.toInt, f, r, fun w => (M.1 sp w).toInt) m f r i := ⟨fun _ _ => rfl, Nat.le_refl _, by rw [Nat.sub_self]; rfl⟩
theorem yGI_n {sp : Nat} {P : yWp} {st : Int} {path : Nat → Nat} {M X : pvM} {a : Nat} {s0 : yWs} {m f r i i' : Int32} (h : yGI sp P st path M X a s0 m f r i) (h0 : 0 ≤ i.toInt) (h2 : i'.toInt = i.toInt + 1) (c : ¬ (P (path (Int32.toNatClampNeg i))).2.2.2.2 = 0) : yGI sp P st path M X a s0 m f r i' := by
  obtain ⟨h1, h3, h4⟩ := h
  have t := ycl h0
  have t2 : Int32.toNatClampNeg i' = Int32.toNatClampNeg i + 1 := by
    have := ycl (x := i') (by omega)
    omega
  refine ⟨h1, by omega, ?_⟩
  rw [t2, show Int32.toNatClampNeg i + 1 - a = (Int32.toNatClampNeg i - a) + 1 by omega]
  show _ = yw1 P st (ywk P st path a s0 (Int32.toNatClampNeg i - a)) (path (a + (Int32.toNatClampNeg i - a)))
  rw [← h4, show a + (Int32.toNatClampNeg i - a) = Int32.toNatClampNeg i by omega]
  unfold yw1
  rw [if_neg c]
theorem yGI_y {sp : Nat} {P : yWp} {st : Int} {path : Nat → Nat} {M X Y : pvM} {a w : Nat} {s0 : yWs} {m f r i i' m' f' r' : Int32} (h : yGI sp P st path M X a s0 m f r i) (h0 : 0 ≤ i.toInt) (h2 : i'.toInt = i.toInt + 1) (c : (P (path (Int32.toNatClampNeg i))).2.2.2.2 = 0) (e : Y = pvu X sp w m') (hw : w = path (Int32.toNatClampNeg i)) (hm : m'.toInt = m.toInt + (zWy st (P w).2.2.1.toInt (P w).2.2.2.1.toInt f.toInt r.toInt + zTm (P w).1 (P w).2.1)) (hf : f' = (P w).2.2.1) (hr : r' = (P w).2.2.2.1) : yGI sp P st path M Y a s0 m' f' r' i' := by
  obtain ⟨h1, h3, h4⟩ := h
  have t := ycl h0
  have t2 : Int32.toNatClampNeg i' = Int32.toNatClampNeg i + 1 := by
    have := ycl (x := i') (by omega)
    omega
  subst hw
  refine ⟨fun q hq => (funext fun b => pvu_n e q b (Or.inl hq)).trans (h1 q hq), by omega, ?_⟩
  rw [t2, show Int32.toNatClampNeg i + 1 - a = (Int32.toNatClampNeg i - a) + 1 by omega]
  show _ = yw1 P st (ywk P st path a s0 (Int32.toNatClampNeg i - a)) (path (a + (Int32.toNatClampNeg i - a)))
  rw [← h4, show a + (Int32.toNatClampNeg i - a) = Int32.toNatClampNeg i by omega]
  unfold yw1
  rw [if_pos c]
  refine Prod.ext hm (Prod.ext hf (Prod.ext hr (funext fun j => ?_)))
  show (Y.1 sp j).toInt = if j = path (Int32.toNatClampNeg i) then _ else _
  by_cases z : j = path (Int32.toNatClampNeg i)
  · rw [if_pos z, z, pvu_s e]; exact hm
  · rw [if_neg z, pvu_n e sp j (Or.inr z)]
/-! the walk of the class -/
def yP9 (M : pvM) : yWp := fun w => (M.1 (60 + w) 0, M.1 (60 + w) 4, M.1 (60 + w) 2, M.1 (60 + w) 3, M.1 (60 + w) 5)
def yst9 (M : pvM) : Int := (M.1 (yHp M) 0).toInt
def ypa (M : pvM) (q : Nat) : Nat → Nat := fun i => Int32.toNatClampNeg (M.1 q i)
theorem y9_n {M X : pvM} {Q a : Nat} {s0 : yWs} {m f r i i' : Int32} (hQ : Q ≠ 12) (h : yGI 12 (yP9 M) (yst9 M) (ypa M Q) M X a s0 m f r i) (h0 : 0 ≤ i.toInt) (h2 : i'.toInt = i.toInt + 1) (c : ¬ X.1 (pvbs 10 + Int32.toNatClampNeg (X.1 Q (Int32.toNatClampNeg i))) 5 = 0) : yGI 12 (yP9 M) (yst9 M) (ypa M Q) M X a s0 m f r i' := by
  refine yGI_n h h0 h2 ?_
  have pb : pvbs 10 = 60 := rfl
  rw [h.1 Q hQ, pb, h.1 _ (by omega)] at c
  exact c
theorem y9_y {M X Y : pvM} {Q a : Nat} {s0 : yWs} {m f r i i' x : Int32} (hok : pvOk M) (hQ : Q ≠ 12) (h : yGI 12 (yP9 M) (yst9 M) (ypa M Q) M X a s0 m f r i) (h0 : 0 ≤ i.toInt) (h2 : i'.toInt = i.toInt + 1) (c : X.1 (pvbs 10 + Int32.toNatClampNeg (X.1 Q (Int32.toNatClampNeg i))) 5 = 0) (e : Y = pvu X 12 (Int32.toNatClampNeg (X.1 Q (Int32.toNatClampNeg i))) (m + x)) (d : x.toInt = zWy (X.1 (pvhp (X.1 8 8)) 0).toInt (X.1 (pvbs 10 + Int32.toNatClampNeg (X.1 Q (Int32.toNatClampNeg i))) 2).toInt (X.1 (pvbs 10 + Int32.toNatClampNeg (X.1 Q (Int32.toNatClampNeg i))) 3).toInt f.toInt r.toInt + zTm (X.1 (pvbs 10 + Int32.toNatClampNeg (X.1 Q (Int32.toNatClampNeg i))) 0) (X.1 (pvbs 10 + Int32.toNatClampNeg (X.1 Q (Int32.toNatClampNeg i))) 4)) (hs : (m + x).toInt = m.toInt + x.toInt) : yGI 12 (yP9 M) (yst9 M) (ypa M Q) M Y a s0 (m + x) (Y.1 (pvbs 10 + Int32.toNatClampNeg (X.1 Q (Int32.toNatClampNeg i))) 2) (Y.1 (pvbs 10 + Int32.toNatClampNeg (X.1 Q (Int32.toNatClampNeg i))) 3) i' := by
  have hp := yHp_r hok
  have e8 : pvhp (X.1 8 8) = yHp M := by
    unfold yHp
    rw [h.1 8 (by decide)]
  have y2 := pvu_n e (pvbs 10 + Int32.toNatClampNeg (X.1 Q (Int32.toNatClampNeg i))) 2 (Or.inl (by have pb : pvbs 10 = 60 := rfl; omega))
  have y3 := pvu_n e (pvbs 10 + Int32.toNatClampNeg (X.1 Q (Int32.toNatClampNeg i))) 3 (Or.inl (by have pb : pvbs 10 = 60 := rfl; omega))
  rw [y2, y3]
  have pb : pvbs 10 = 60 := rfl
  rw [e8, h.1 (yHp M) (by omega)] at d
  rw [h.1 Q hQ] at c e d ⊢
  rw [pb, h.1 _ (by omega)] at c d ⊢
  exact yGI_y h h0 h2 c e rfl (by rw [hs, d]; rfl) rfl rfl
/-- how she went: the END, when each is SHUT -/
def yGA (Q : Nat) (n2 n3 n4 : Int32) (r : Option pvV) (M X : pvM) : Prop := (∀ q : Nat, q ≠ 12 → X.1 q = M.1 q) ∧ ∃ x : Int32, r = some (pvI x) ∧ ∀ s : yWs, s = ywk (yP9 M) (yst9 M) (ypa M (Q + 8)) (Int32.toNatClampNeg n2) (n4.toInt, M.1 8 6, M.1 8 7, fun w => (M.1 12 w).toInt) ((min n3.toInt (M.1 Q 0).toInt).toNat - Int32.toNatClampNeg n2) → x.toInt = s.1 ∧ ∀ w : Nat, (X.1 12 w).toInt = s.2.2.2 w
theorem yGA_i {M X : pvM} {Q : Nat} {n2 n3 n4 m f r i : Int32} (h : yGI 12 (yP9 M) (yst9 M) (ypa M (Q + 8)) M X (Int32.toNatClampNeg n2) (n4.toInt, M.1 8 6, M.1 8 7, fun w => (M.1 12 w).toInt) m f r i) (h0 : 0 ≤ n2.toInt) (hi : 0 ≤ i.toInt) (b : i.toInt ≤ max n2.toInt (min n3.toInt (M.1 Q 0).toInt)) (e : n3.toInt ≤ i.toInt ∨ (X.1 Q 0).toInt ≤ i.toInt) (hQ : Q ≠ 12) : yGA Q n2 n3 n4 (some (pvI m)) M X := by
  obtain ⟨h1, h3, h4⟩ := h
  rw [h1 Q hQ] at e
  have t := ycl h0
  have ti := ycl hi
  refine ⟨h1, m, rfl, fun s hs => ?_⟩
  rw [show (min n3.toInt (M.1 Q 0).toInt).toNat - Int32.toNatClampNeg n2 = Int32.toNatClampNeg i - Int32.toNatClampNeg n2 by omega, ← h4] at hs
  subst hs
  exact ⟨rfl, fun _ => rfl⟩
