/-! how much COST at most -/
theorem ych_b {A : pvM} (hok : pvOk A) {S : List yCl} (hS : zHC A (yHp A) S) {sd : Int32} {co : Int} {sh : Nat → Int} {w : Nat} (hw : w < 7) {a : Int} (ha : 0 ≤ a) (n : Nat) : 0 ≤ ysg (ych A S sd co sh w) a n ∧ ysg (ych A S sd co sh w) a n ≤ 200000 := by
  have l := yhl hok
  have kl : pvkl (60 + w) = 3 := by
    have : w = 0 ∨ w = 1 ∨ w = 2 ∨ w = 3 ∨ w = 4 ∨ w = 5 ∨ w = 6 := by omega
    rcases this with h | h | h | h | h | h | h <;> subst h <;> rfl
  have b := ysg_bd (f := ych A S sd co sh w) (co := co) (la := yla A) (fun m _ => yhm_b (pvok_r hok (60 + w) 1 ((pvrg_o 1 kl (by decide) (by decide)).trans rfl)) (fun k _ => pvok_r hok (60 + w + 7) k ((pvrg_a _ (by rw [(pvow_3_7 kl).1]; decide)).trans (pvow_3_7 kl).2.2.2)) (fun t => yhr hok hS _) m) (fun m c => by unfold ych yhm; rw [if_neg (fun z => c ⟨z.1, z.2.1⟩)]) ha n
  unfold yla at b
  omega
theorem ysm_b {A : pvM} (hok : pvOk A) {S : List yCl} (hS : zHC A (yHp A) S) {sd : Int32} {co : Int} {sh : Nat → Int} {a : Int} (ha : 0 ≤ a) (n : Nat) : ∀ w : Nat, w ≤ 7 → 0 ≤ ysm A S sd co sh a n w ∧ ysm A S sd co sh a n w ≤ 200000 * (w : Int)
  | 0, _ => by show (0 : Int) ≤ 0 ∧ (0 : Int) ≤ _; omega
  | w + 1, h => by
    have i := ysm_b hok hS (sd := sd) (co := co) (sh := sh) ha n w (by omega)
    have j := ych_b hok hS (sd := sd) (co := co) (sh := sh) (w := w) (by omega) ha n
    show 0 ≤ ysm A S sd co sh a n w + _ ∧ ysm A S sd co sh a n w + _ ≤ _
    omega
theorem yCs_b {A : pvM} (hok : pvOk A) {S : List yCl} (hS : zHC A (yHp A) S) (sd : Int32) (co : Int) (sh : Nat → Int) : 0 ≤ yCs A S sd co sh ∧ yCs A S sd co sh ≤ 1400000 := by
  have r := pvok_r hok 8 4 (lo := 0) (hi := 9999) rfl
  have w7 := yWn_7 hok
  have b := ysm_b hok hS (sd := sd) (co := co) (sh := sh) r.1 (co + yla A - (A.1 8 4).toInt).toNat (yWn A) w7
  unfold yCs
  omega
/-! the greatest that divides both -/
theorem yrem {x y : Int32} (hx : 0 ≤ x.toInt) (hy : 0 < y.toInt) : Int32.toNatClampNeg (x - x / y * y) = Int32.toNatClampNeg x % Int32.toNatClampNeg y ∧ 0 ≤ (x - x / y * y).toInt := by
  have p := pvrem x y hx hy
  obtain ⟨a, ha, rfl⟩ := zpos hx
  obtain ⟨b, hb, rfl⟩ := zpos (show 0 ≤ y.toInt by omega)
  rw [nI_toInt hb] at hy
  refine ⟨?_, p.1⟩
  have m := Nat.mod_lt a (show b > 0 by omega)
  have c : ∀ k : Nat, k < 2 ^ 31 → Int32.toNatClampNeg (nI k) = k := fun k hk => by
    have := ycl (x := nI k) (by rw [nI_toInt hk]; omega)
    rw [nI_toInt hk] at this
    omega
  rw [pk_rem ha (by omega) hb, c _ ha, c _ hb, c _ (by omega)]
theorem ydiv {x y : Int32} (hx : 0 ≤ x.toInt) (hy : 0 < y.toInt) : (x / y).toInt = ((Int32.toNatClampNeg x / Int32.toNatClampNeg y : Nat) : Int) := by
  obtain ⟨a, ha, rfl⟩ := zpos hx
  obtain ⟨b, hb, rfl⟩ := zpos (show 0 ≤ y.toInt by omega)
  rw [nI_toInt hb] at hy
  have m := Nat.div_le_self a b
  have c : ∀ k : Nat, k < 2 ^ 31 → Int32.toNatClampNeg (nI k) = k := fun k hk => by
    have := ycl (x := nI k) (by rw [nI_toInt hk]; omega)
    rw [nI_toInt hk] at this
    omega
  rw [pk_div ha (by omega) hb, c _ ha, c _ hb, nI_toInt (by omega)]
def yGs (a b i : Int32) : Prop := 0 ≤ a.toInt → (0 ≤ i.toInt ∧ i.toInt ≤ a.toInt ∧ i.toInt ≤ b.toInt) ∧ ∀ k : Nat, i.toInt < (k : Int) → k ∣ Int32.toNatClampNeg a → k ∣ Int32.toNatClampNeg b → ¬ ((k : Int) ≤ a.toInt ∧ (k : Int) ≤ b.toInt)
theorem yGs_0 {a b i : Int32} (hb : 1 ≤ b.toInt) (hi : i.toInt = min (max a.toInt 0) b.toInt) : yGs a b i := fun h => ⟨by omega, fun k hk _ _ z => by omega⟩
theorem yGs_s {a b i i' : Int32} (h : yGs a b i) (hb : 1 ≤ b.toInt) (h1 : 2 ≤ i.toInt) (h2 : i'.toInt = i.toInt - 1) (c : ¬ (a - a / i * i) = 0 ∨ ¬ (b - b / i * i) = 0) : yGs a b i' := fun h0 => by
  obtain ⟨p, q⟩ := h h0
  refine ⟨by omega, fun k hk d e z => ?_⟩
  by_cases s : (k : Int) = i.toInt
  · have ti := ycl (x := i) (by omega)
    have ki : k = Int32.toNatClampNeg i := by omega
    subst ki
    have ra := yrem (x := a) (y := i) h0 (by omega)
    have rb := yrem (x := b) (y := i) (by omega) (by omega)
    rw [Nat.mod_eq_zero_of_dvd d] at ra
    rw [Nat.mod_eq_zero_of_dvd e] at rb
    have za := ycl ra.2
    have zb := ycl rb.2
    have u0 : (0 : Int32).toInt = 0 := by decide
    rcases c with c | c
    · exact c ((zi_eq _ _).mpr (by omega))
    · exact c ((zi_eq _ _).mpr (by omega))
  · exact q k (by omega) d e z
def yGc (a b x : Int32) : Prop := 0 ≤ a.toInt → Int32.toNatClampNeg x = Nat.gcd (Int32.toNatClampNeg a) (Int32.toNatClampNeg b)
theorem yGc_i {a b i : Int32} (h : yGs a b i) (hb : 1 ≤ b.toInt) (h1 : 2 ≤ i.toInt) (ca : (a - a / i * i) = 0) (cb : (b - b / i * i) = 0) : yGc a b i := fun h0 => by
  obtain ⟨p, q⟩ := h h0
  have ta := ycl h0
  have tb := ycl (x := b) (by omega)
  have ti := ycl (x := i) (by omega)
  have ra := yrem (x := a) (y := i) h0 (by omega)
  have rb := yrem (x := b) (y := i) (by omega) (by omega)
  rw [ca, ycl0] at ra
  rw [cb, ycl0] at rb
  have g1 := Nat.dvd_gcd (Nat.dvd_of_mod_eq_zero ra.1.symm) (Nat.dvd_of_mod_eq_zero rb.1.symm)
  have g0 : 0 < Nat.gcd (Int32.toNatClampNeg a) (Int32.toNatClampNeg b) := Nat.gcd_pos_of_pos_right _ (by omega)
  have g2 := Nat.le_of_dvd g0 g1
  have ga := Nat.le_of_dvd (by omega) (Nat.gcd_dvd_left (Int32.toNatClampNeg a) (Int32.toNatClampNeg b))
  have gb := Nat.le_of_dvd (by omega) (Nat.gcd_dvd_right (Int32.toNatClampNeg a) (Int32.toNatClampNeg b))
  by_cases c : Nat.gcd (Int32.toNatClampNeg a) (Int32.toNatClampNeg b) = Int32.toNatClampNeg i
  · exact c.symm
  · exact absurd ⟨by omega, by omega⟩ (q _ (by omega) (Nat.gcd_dvd_left _ _) (Nat.gcd_dvd_right _ _))
theorem yGc_1 {a b i x : Int32} (h : yGs a b i) (hb : 1 ≤ b.toInt) (h1 : i.toInt ≤ 1) (c : ¬ a = 0) (hx : x.toInt = 1) : yGc a b x := fun h0 => by
  obtain ⟨p, q⟩ := h h0
  have ta := ycl h0
  have tb := ycl (x := b) (by omega)
  have tx := ycl (x := x) (by omega)
  have u0 : (0 : Int32).toInt = 0 := by decide
  have a0 : ¬ a.toInt = 0 := fun z => c ((zi_eq _ _).mpr (by omega))
  have g0 : 0 < Nat.gcd (Int32.toNatClampNeg a) (Int32.toNatClampNeg b) := Nat.gcd_pos_of_pos_right _ (by omega)
  have ga := Nat.le_of_dvd (by omega) (Nat.gcd_dvd_left (Int32.toNatClampNeg a) (Int32.toNatClampNeg b))
  have gb := Nat.le_of_dvd (by omega) (Nat.gcd_dvd_right (Int32.toNatClampNeg a) (Int32.toNatClampNeg b))
  by_cases d : Nat.gcd (Int32.toNatClampNeg a) (Int32.toNatClampNeg b) = 1
  · rw [d]; omega
  · exact absurd ⟨by omega, by omega⟩ (q _ (by omega) (Nat.gcd_dvd_left _ _) (Nat.gcd_dvd_right _ _))
theorem yGc_0 {a b x : Int32} (c : a = 0) (hx : x = b) : yGc a b x := fun _ => by rw [c, hx, ycl0, Nat.gcd_zero_left]
/-- Euclid's -/
def yEu (a b p q : Int32) : Prop := Nat.gcd (Int32.toNatClampNeg p) (Int32.toNatClampNeg q) = Nat.gcd (Int32.toNatClampNeg a) (Int32.toNatClampNeg b)
theorem yEu_0 (a b : Int32) : yEu a b a b := rfl
theorem yEu_s {a b p q : Int32} (h : yEu a b p q) (hp : 0 ≤ p.toInt) (hq : 0 < q.toInt) : yEu a b q (p - p / q * q) := by
  unfold yEu at h ⊢
  rw [(yrem hp hq).1, ← h]
  exact (Nat.gcd_comm _ _).trans ((Nat.gcd_rec (Int32.toNatClampNeg q) (Int32.toNatClampNeg p)).symm.trans (Nat.gcd_comm _ _))
theorem yEu_e {a b p q : Int32} (h : yEu a b p q) (c : q = 0) : Int32.toNatClampNeg p = Nat.gcd (Int32.toNatClampNeg a) (Int32.toNatClampNeg b) := by
  unfold yEu at h
  rw [c, ycl0, Nat.gcd_zero_right] at h
  exact h
/-- a part of a fraction in lowest terms -/
def yFt (a b : Nat) (part : Int) : Int := if part = 0 then ((a / Nat.gcd a b : Nat) : Int) else ((b / Nat.gcd a b : Nat) : Int)
def yPo (a b part : Int32) (x : Int64) : Prop := 0 ≤ a.toInt → x.toInt = yFt (Int32.toNatClampNeg a) (Int32.toNatClampNeg b) part.toInt
theorem yPo_i {a b part g v : Int32} {x : Int64} (hg : 1 ≤ g.toInt) (h : yGc a b g) (hb : 1 ≤ b.toInt) (c : (part = 0 ∧ v = a / g) ∨ (¬ part = 0 ∧ v = b / g)) (hx : x = Int32.toInt64 v) : yPo a b part x := fun h0 => by
  have u0 : (0 : Int32).toInt = 0 := by decide
  have e := h h0
  unfold yFt
  rw [hx, Int32.toInt_toInt64]
  rcases c with ⟨c, k⟩ | ⟨c, k⟩
  · rw [if_pos (by rw [c, u0]), k, ydiv h0 (by omega), e]
  · rw [if_neg (fun z => c ((zi_eq _ _).mpr (by omega))), k, ydiv (by omega) (by omega), e]
/-! odds -/
def ytw (f : Nat → Int) (q : Int) : Nat → Nat
  | 0 => 0
  | n + 1 => if f n ≤ q then ytw f q n + 1 else ytw f q n
theorem ytw_b (f : Nat → Int) (q : Int) : ∀ n : Nat, ytw f q n ≤ n
  | 0 => Nat.le_refl _
  | n + 1 => by
    have := ytw_b f q n
    show (if f n ≤ q then ytw f q n + 1 else ytw f q n) ≤ n + 1
    split <;> omega
def yoF (A : pvM) (S : List yCl) (k : Nat) : Int := yCs A S (nI k) (A.1 8 2).toInt (yrW A).2.2.2
def yNO : Int := -9223372036854775808
def yGod (q p : Int32) (A : pvM) (S : List yCl) : Int := if (q.toInt < 0 ∨ 99999 < q.toInt) ∨ (p.toInt < 0 ∨ 1 < p.toInt) then yNO else yFt (ytw (yoF A S) q.toInt 4) 4 p.toInt
def yOdI (M X : pvM) (q n i : Int32) : Prop := yIs M X (yrW M).2.2.2 ∧ (yWS M → ∀ S : List yCl, zHC M (yHp M) S → n.toInt = ytw (yoF M S) q.toInt (Int32.toNatClampNeg i))
theorem yOdI_0 {M X : pvM} {e : Option pvV} {q n i : Int32} (h : yRn9 M X e) (hn : n.toInt = 0) (hi : i.toInt = 0) : yOdI M X q n i := ⟨⟨⟨_, h.1⟩, h.2.1⟩, fun _ _ _ => by
  have : Int32.toNatClampNeg i = 0 := by
    have := ycl (x := i) (by omega)
    omega
  rw [this, hn]; rfl⟩
theorem yOdI_c {M X Y : pvM} {q n i x : Int32} (hok : pvOk M) (hY : pvOk Y) (h : yOdI M X q n i) (t : yTT i X Y) (hi : 0 ≤ i.toInt ∧ i.toInt < 4) (k : yCo Y x) (hW : yWS M) {S : List yCl} (hS : zHC M (yHp M) S) : x.toInt = yoF M S (Int32.toNatClampNeg i) := by
  obtain ⟨a, b⟩ := yIs_T h.1 t hi
  rw [yIm_C hok hY a b.2 k hW hS]
  unfold yoF
  rw [nI_c hi.1]
theorem yOdI_s {M X Y : pvM} {q n n' i i' x : Int32} (hok : pvOk M) (hY : pvOk Y) (h : yOdI M X q n i) (t : yTT i X Y) (hi : 0 ≤ i.toInt ∧ i.toInt < 4) (k : yCo Y x) (h2 : i'.toInt = i.toInt + 1) (c : (x ≤ q ∧ n' = n + 1) ∨ (¬ x ≤ q ∧ n' = n)) : yOdI M Y q n' i' := ⟨(yIs_T h.1 t hi).2, fun hW S hS => by
  have t1 := ycl hi.1
  have t2 : Int32.toNatClampNeg i' = Int32.toNatClampNeg i + 1 := by
    have := ycl (x := i') (by omega)
    omega
  have e := h.2 hW S hS
  have b := ytw_b (yoF M S) q.toInt (Int32.toNatClampNeg i)
  have u1 : (1 : Int32).toInt = 1 := by decide
  have ex := yOdI_c hok hY h t hi k hW hS
  rw [t2]
  show _ = (((if yoF M S (Int32.toNatClampNeg i) ≤ q.toInt then ytw (yoF M S) q.toInt (Int32.toNatClampNeg i) + 1 else ytw (yoF M S) q.toInt (Int32.toNatClampNeg i)) : Nat) : Int)
  rw [← ex]
  rcases c with ⟨c, d⟩ | ⟨c, d⟩
  · rw [if_pos ((zi_le _ _).mp c), d, zadd _ _ (by rw [u1]; omega) (by rw [u1]; omega), u1, e]; rfl
  · rw [if_neg (fun z => c ((zi_le _ _).mpr z)), d, e]⟩
theorem yGod_n {q p : Int32} {x : Int64} {M : pvM} (h : (q.toInt < 0 ∨ 99999 < q.toInt) ∨ (p.toInt < 0 ∨ 1 < p.toInt)) (e : x.toInt = yNO) : yAj (yGod q p) (some (pvJ x)) M M := yAj_n (fun S => by unfold yGod; rw [if_pos h, e])
theorem yGod_e {M X : pvM} {q p n i b : Int32} {x : Int64} (h : yOdI M X q n i) (hi : i.toInt = 4) (hb : b.toInt = 4) (c : ¬ ((q.toInt < 0 ∨ 99999 < q.toInt) ∨ (p.toInt < 0 ∨ 1 < p.toInt))) (d : yPo n b p x) : yAj (yGod q p) (some (pvJ x)) M X := by
  obtain ⟨⟨s, a⟩, _⟩ := h.1
  refine yAj_i a (fun hW S hS _ => ?_)
  have e := h.2 hW S hS
  have e4 : Int32.toNatClampNeg i = 4 := by
    have := ycl (x := i) (by omega)
    omega
  have b4 : Int32.toNatClampNeg b = 4 := by
    have := ycl (x := b) (by omega)
    omega
  rw [e4] at e
  have tn := ycl (x := n) (by omega)
  unfold yGod
  rw [if_neg c, d (by omega), b4, show Int32.toNatClampNeg n = ytw (yoF M S) q.toInt 4 by omega]
/-! mean -/
def ysu (f : Nat → Int) : Nat → Int
  | 0 => 0
  | n + 1 => ysu f n + f n
theorem ysu_b {f : Nat → Int} (h : ∀ k : Nat, 0 ≤ f k ∧ f k ≤ 1400000) : ∀ n : Nat, 0 ≤ ysu f n ∧ ysu f n ≤ 1400000 * (n : Int)
  | 0 => by show (0 : Int) ≤ 0 ∧ (0 : Int) ≤ _; omega
  | n + 1 => by
    have i := ysu_b h n
    have j := h n
    show 0 ≤ ysu f n + f n ∧ ysu f n + f n ≤ _
    omega
def ymF (A : pvM) (S : List yCl) (k : Nat) : Int := yCs A S (A.1 8 3) ((A.1 8 2).toInt + k) (yrW A).2.2.2
theorem ymF_b {A : pvM} (hok : pvOk A) {S : List yCl} (hS : zHC A (yHp A) S) : ∀ k : Nat, 0 ≤ ymF A S k ∧ ymF A S k ≤ 1400000 := fun k => yCs_b hok hS _ _ _
def yGme (p : Int32) (A : pvM) (S : List yCl) : Int := if p.toInt < 0 ∨ 1 < p.toInt then yNO else yFt (ysu (ymF A S) 10).toNat 10 p.toInt
def yMeI (M X : pvM) (n i : Int32) : Prop := yIc M X (yrW M).2.2.2 ∧ (yWS M → ∀ S : List yCl, zHC M (yHp M) S → n.toInt = ysu (ymF M S) (Int32.toNatClampNeg i))
theorem yMeI_0 {M X : pvM} {e : Option pvV} {n i : Int32} (h : yRn9 M X e) (hn : n.toInt = 0) (hi : i.toInt = 0) : yMeI M X n i := ⟨⟨⟨_, h.1⟩, h.2.1⟩, fun _ _ _ => by
  have : Int32.toNatClampNeg i = 0 := by
    have := ycl (x := i) (by omega)
    omega
  rw [this, hn]; rfl⟩
theorem yMeI_s {M X Y : pvM} {n i i' x v : Int32} (hok : pvOk M) (hX : pvOk X) (hY : pvOk Y) (h : yMeI M X n i) (e : Y = pvu X 5 2 v) (hi : 0 ≤ i.toInt ∧ i.toInt < 10) (hv : v = X.1 8 2 + i) (k : yCo Y x) (h2 : i'.toInt = i.toInt + 1) : yMeI M Y (n + x) i' := ⟨(yIc_c hX h.1 e).2, fun hW S hS => by
  obtain ⟨a, b⟩ := yIc_c hX h.1 e
  obtain ⟨⟨c, L⟩, _⟩ := h.1
  have t1 := ycl hi.1
  have t2 : Int32.toNatClampNeg i' = Int32.toNatClampNeg i + 1 := by
    have := ycl (x := i') (by omega)
    omega
  have r := pvok_r hok 8 2 (lo := 0) (hi := 99) rfl
  have ev : v.toInt = (M.1 8 2).toInt + i.toInt := by
    rw [hv, L.1.1 8 (by decide), zadd _ _ (by omega) (by omega)]
  have ex : x.toInt = ymF M S (Int32.toNatClampNeg i) := by
    rw [yIm_C hok hY a b.2 k hW hS, ev]
    unfold ymF
    rw [t1]
  have en := h.2 hW S hS
  have bn := ysu_b (ymF_b hok hS) (Int32.toNatClampNeg i)
  have bx := ymF_b hok hS (Int32.toNatClampNeg i)
  rw [t2, zadd _ _ (by omega) (by omega), en, ex]
  rfl⟩
theorem yGme_n {p : Int32} {x : Int64} {M : pvM} (h : p.toInt < 0 ∨ 1 < p.toInt) (e : x.toInt = yNO) : yAj (yGme p) (some (pvJ x)) M M := yAj_n (fun S => by unfold yGme; rw [if_pos h, e])
theorem yGme_e {M X : pvM} {p n i b : Int32} {x : Int64} (hok : pvOk M) (h : yMeI M X n i) (hi : i.toInt = 10) (hb : b.toInt = 10) (c : ¬ (p.toInt < 0 ∨ 1 < p.toInt)) (d : yPo n b p x) : yAj (yGme p) (some (pvJ x)) M X := by
  obtain ⟨⟨s, a⟩, _⟩ := h.1
  refine yAj_i a (fun hW S hS _ => ?_)
  have e := h.2 hW S hS
  have e4 : Int32.toNatClampNeg i = 10 := by
    have := ycl (x := i) (by omega)
    omega
  have b4 : Int32.toNatClampNeg b = 10 := by
    have := ycl (x := b) (by omega)
    omega
  rw [e4] at e
  have bd := ysu_b (ymF_b hok hS) 10
  have tn := ycl (x := n) (by omega)
  unfold yGme
  rw [if_neg c, d (by omega), b4, show Int32.toNatClampNeg n = (ysu (ymF M S) 10).toNat by omega]
/-! from -/
def yaS (f : Nat → Int) (who num : Nat → Int32) : Nat → Bool
  | 0 => true
  | n + 1 => yaS f who num n && decide (f (Int32.toNatClampNeg (who n)) = (num n).toInt)
theorem yaS_c {f g : Nat → Int} {who who' num num' : Nat → Int32} : ∀ {n : Nat}, (∀ i : Nat, i < n → who i = who' i ∧ num i = num' i ∧ f (Int32.toNatClampNeg (who i)) = g (Int32.toNatClampNeg (who i))) → yaS f who num n = yaS g who' num' n
  | 0, _ => rfl
  | n + 1, h => by
    obtain ⟨a, b, c⟩ := h n (by omega)
    show (yaS f who num n && decide (f (Int32.toNatClampNeg (who n)) = (num n).toInt)) = (yaS g who' num' n && decide (g (Int32.toNatClampNeg (who' n)) = (num' n).toInt))
    rw [yaS_c (fun i hi => h i (by omega)), ← a, ← b, c]
theorem yaS_f {f : Nat → Int} {who num : Nat → Int32} {i : Nat} (c : ¬ f (Int32.toNatClampNeg (who i)) = (num i).toInt) : ∀ n : Nat, i < n → yaS f who num n = false
  | 0, h => absurd h (by omega)
  | n + 1, h => by
    show (yaS f who num n && decide (f (Int32.toNatClampNeg (who n)) = (num n).toInt)) = false
    by_cases e : i = n
    · subst e
      rw [decide_eq_false c, Bool.and_false]
    · rw [yaS_f c n (by omega), Bool.false_and]
def ywh (A : pvM) (S : List yCl) (sd : Int32) (w : Nat) : Int := ysg (ych A S sd (A.1 8 2).toInt (ysI A) w) (A.1 8 4).toInt ((A.1 8 2).toInt + yla A - (A.1 8 4).toInt).toNat
def yfA (A : pvM) (S : List yCl) (k : Nat) : Bool := yaS (ywh A S (nI k)) (A.1 110) (A.1 118) (Int32.toNatClampNeg (A.1 102 0))
def yFm (A : pvM) (S : List yCl) : Nat → Int32
  | 0 => 0
  | n + 1 => if yfA A S n = true then yFm A S n ||| (1 <<< (nI n &&& 31)) else yFm A S n
def yGfr (A : pvM) (S : List yCl) : Int := (yFm A S 4).toInt
theorem pw_callJx {j d : Nat} {Q : Option pvV → pvM → Prop} {L : List (Nat × pvO)} {pc a b c dd nx d1 : Nat} {lo lo1 : List (Option pvV)} {st rest as : List pvV} {M : pvM} {W : Int64 → Prop} (hT : pvdom j = L) (ho : pvlook L pc = (80, a, b, c, dd, 0, nx)) (hst : st.take c = as.reverse) (hrest : st.drop c = rest) (hlen : Nat.ble rest.length 4 = true) (hcl : Nat.ble c st.length = true) (hr : dd % 2 = 1 → pvrcv b as) (hd : dd / 2 ≤ d) (hd1 : d - dd / 2 = d1) (hsl : Nat.ble (pvsl as).length (pvml b) = true) (hlo : pvent (pvml b) as = lo1)
    (h1 : PW b d1 (0, lo1, [], M) (fun r X => (∃ x : Int64, r = some (pvJ x) ∧ W x) ∧ X = M)) (k : ∀ x, W x → PW j d (nx, lo, pvJ x :: rest, M) Q) : PW j d (pc, lo, st, M) Q :=
  pw_call hT ho hst hrest hlen hcl hr hd hd1 hsl hlo h1 (fun r1 M1 h => by obtain ⟨⟨x, rfl, hx⟩, rfl⟩ := h; exact k _ hx)
/-! is all as SEEN, the class -/
def ysnF (X : pvM) (S : List yCl) (w : Nat) : Int := ysg (ych X S (X.1 5 1) (X.1 5 2).toInt (fun v => (X.1 12 v).toInt) w) (X.1 8 4).toInt ((X.1 5 2).toInt + yla X - (X.1 8 4).toInt).toNat
def ysnP (X : pvM) (S : List yCl) : Prop := yWS X ∧ ¬ X.1 14 (Int32.toNatClampNeg (X.1 5 1)) = 0 ∧ zHC X (yHp X) S ∧ ∀ i : Nat, i < Int32.toNatClampNeg (X.1 102 0) → ypa X 110 i < yWn X
def ySnI (X : pvM) (i : Int32) : Prop := i.toInt ≤ (X.1 102 0).toInt ∧ ∀ S : List yCl, ysnP X S → yaS (ysnF X S) (X.1 110) (X.1 118) (Int32.toNatClampNeg i) = true
def ySn (X : pvM) (x : Int32) : Prop := ∀ S : List yCl, ysnP X S → x = if yaS (ysnF X S) (X.1 110) (X.1 118) (Int32.toNatClampNeg (X.1 102 0)) = true then 1 else 0
theorem ySnI_0 {X : pvM} (hok : pvOk X) : ySnI X 0 := by
  have r := pvok_r hok 102 0 (lo := 0) (hi := 6) rfl
  have u0 : (0 : Int32).toInt = 0 := by decide
  exact ⟨by omega, fun S _ => by rw [ycl0]; rfl⟩
theorem ySnI_c {X : pvM} {i e x : Int32} (hok : pvOk X) (h0 : 0 ≤ i.toInt) (hl : i.toInt < (X.1 102 0).toInt) (he : e.toInt = (X.1 5 2).toInt + (X.1 (pvhp (X.1 8 8)) 1).toInt) (d : yHO X (X.1 110 (Int32.toNatClampNeg i)) (X.1 8 4) e x) {S : List yCl} (p : ysnP X S) : x.toInt = ysnF X S (Int32.toNatClampNeg (X.1 110 (Int32.toNatClampNeg i))) := by
  obtain ⟨p1, p2, p3, p4⟩ := p
  have t := ycl h0
  have r := pvok_r hok 102 0 (lo := 0) (hi := 6) rfl
  have tc := ycl r.1
  have ra := pvok_r hok 110 (Int32.toNatClampNeg i) (lo := 0) (hi := 6) rfl
  have ta := ycl ra.1
  have wi := yWn_i hok
  have b := p4 (Int32.toNatClampNeg i) (by omega)
  unfold ypa at b
  rw [d p1 p2 (by omega) S p3, y9h_x, he]
  rfl
theorem ySnI_s {X : pvM} {i i' e x : Int32} (hok : pvOk X) (h : ySnI X i) (h0 : 0 ≤ i.toInt) (hl : i.toInt < (X.1 102 0).toInt) (h2 : i'.toInt = i.toInt + 1) (he : e.toInt = (X.1 5 2).toInt + (X.1 (pvhp (X.1 8 8)) 1).toInt) (d : yHO X (X.1 110 (Int32.toNatClampNeg i)) (X.1 8 4) e x) (c : x = X.1 118 (Int32.toNatClampNeg i)) : ySnI X i' := by
  have t := ycl h0
  have t2 : Int32.toNatClampNeg i' = Int32.toNatClampNeg i + 1 := by
    have := ycl (x := i') (by omega)
    omega
  refine ⟨by omega, fun S p => ?_⟩
  rw [t2]
  show (yaS (ysnF X S) (X.1 110) (X.1 118) (Int32.toNatClampNeg i) && decide (ysnF X S (Int32.toNatClampNeg (X.1 110 (Int32.toNatClampNeg i))) = (X.1 118 (Int32.toNatClampNeg i)).toInt)) = true
  rw [h.2 S p, ← ySnI_c hok h0 hl he d p, c]
  simp
theorem ySn_n {X : pvM} {i e x : Int32} (hok : pvOk X) (h0 : 0 ≤ i.toInt) (hl : i.toInt < (X.1 102 0).toInt) (he : e.toInt = (X.1 5 2).toInt + (X.1 (pvhp (X.1 8 8)) 1).toInt) (d : yHO X (X.1 110 (Int32.toNatClampNeg i)) (X.1 8 4) e x) (c : ¬ x = X.1 118 (Int32.toNatClampNeg i)) : ySn X 0 := fun S p => by
  have t := ycl h0
  have r := pvok_r hok 102 0 (lo := 0) (hi := 6) rfl
  have tc := ycl r.1
  have f := yaS_f (f := ysnF X S) (who := X.1 110) (num := X.1 118) (i := Int32.toNatClampNeg i) (fun z => c ((zi_eq _ _).mpr ((ySnI_c hok h0 hl he d p).trans z))) (Int32.toNatClampNeg (X.1 102 0)) (by omega)
  rw [f]
  rfl
theorem ySn_y {X : pvM} {i : Int32} (h : ySnI X i) (hl : (X.1 102 0).toInt ≤ i.toInt) : ySn X 1 := fun S p => by
  have e : X.1 102 0 = i := (zi_eq _ _).mpr (by have := h.1; omega)
  rw [e, h.2 S p]
  rfl
/-! from, the class -/
theorem ySn_m {M Y : pvM} {i x : Int32} (hok : pvOk M) (h : yIm M Y i (M.1 8 2)) (k : ySh M Y (ysI M)) (hi : 0 ≤ i.toInt) (d : ySn Y x) (hW : yWS M) {S : List yCl} (hS : zHC M (yHp M) S) (hB : yBw M) : x = if yfA M S (Int32.toNatClampNeg i) = true then 1 else 0 := by
  have L := h.1.1
  have e102 : Y.1 102 = M.1 102 := L 102 (by decide)
  have e110 : Y.1 110 = M.1 110 := L 110 (by decide)
  have e118 : Y.1 118 = M.1 118 := L 118 (by decide)
  have e8 : Y.1 8 = M.1 8 := L 8 (by decide)
  have w7 := yWn_7 hok
  have r2 := pvok_r hok 8 2 (lo := 0) (hi := 99) rfl
  have r4 := pvok_r hok 8 4 (lo := 0) (hi := 9999) rfl
  have l := yhl hok
  have p : ysnP Y S := ⟨(h.1.2 hW).1, (h.1.2 hW).2, yLk_C hok L hS, fun j hj => by
    have := hB.2 j (by rw [← e102]; exact hj)
    unfold ypa at this ⊢
    rw [e110, yLk_W L]
    exact this⟩
  have E : yaS (ysnF Y S) (Y.1 110) (Y.1 118) (Int32.toNatClampNeg (Y.1 102 0)) = yfA M S (Int32.toNatClampNeg i) := by
    unfold yfA
    rw [e102, e110, e118]
    refine yaS_c (fun j hj => ⟨rfl, rfl, ?_⟩)
    have b := hB.2 j hj
    unfold ypa at b
    unfold ysnF ywh
    rw [h.2.1, h.2.2, e8, yLk_a hok L, ych_k hok L (by omega), nI_c hi]
    exact ysg_c (fun m h1 h2 => ych_c b (fun v hv => Or.inl (k v hv)) (by unfold yla; omega) (by omega))
  rw [d S p, E]
def yFrI (M X : pvM) (b i : Int32) : Prop := yIs M X (ysI M) ∧ (yWS M → ∀ S : List yCl, zHC M (yHp M) S → yBw M → b = yFm M S (Int32.toNatClampNeg i))
theorem yFrI_0 {M X : pvM} (hok : pvOk M) (h : yBN M X) : yFrI M X 0 0 := ⟨⟨⟨_, yIm_B h⟩, ySh_B hok h⟩, fun _ _ _ _ => by rw [ycl0]; rfl⟩
theorem yFrI_s {M X Y : pvM} {b b' i i' x : Int32} (hok : pvOk M) (h : yFrI M X b i) (t : yTT i X Y) (hi : 0 ≤ i.toInt ∧ i.toInt < 4) (d : ySn Y x) (h2 : i'.toInt = i.toInt + 1) (c : (x = 0 ∧ b' = b) ∨ (¬ x = 0 ∧ b' = b ||| (1 <<< (i &&& 31)))) : yFrI M Y b' i' := ⟨(yIs_T h.1 t hi).2, fun hW S hS hB => by
  have t1 := ycl hi.1
  have t2 : Int32.toNatClampNeg i' = Int32.toNatClampNeg i + 1 := by
    have := ycl (x := i') (by omega)
    omega
  obtain ⟨a1, a2⟩ := yIs_T h.1 t hi
  have e := ySn_m hok a1 a2.2 hi.1 d hW hS hB
  have eb := h.2 hW S hS hB
  rw [t2]
  show _ = if yfA M S (Int32.toNatClampNeg i) = true then yFm M S (Int32.toNatClampNeg i) ||| (1 <<< (nI (Int32.toNatClampNeg i) &&& 31)) else yFm M S (Int32.toNatClampNeg i)
  rw [nI_c hi.1, ← eb]
  by_cases q : yfA M S (Int32.toNatClampNeg i) = true
  · rw [if_pos q] at e ⊢
    rcases c with ⟨c, k⟩ | ⟨c, k⟩
    · rw [c] at e; exact absurd e (by decide)
    · exact k
  · rw [if_neg q] at e ⊢
    rcases c with ⟨c, k⟩ | ⟨c, k⟩
    · exact k
    · exact absurd e c⟩
theorem yGfr_e {M X : pvM} {b i : Int32} (h : yFrI M X b i) (hi : i.toInt = 4) : yAn yGfr (some (pvI b)) M X := by
  obtain ⟨⟨s, a⟩, _⟩ := h.1
  refine yAn_i a (fun hW S hS hB => ?_)
  have e4 : Int32.toNatClampNeg i = 4 := by
    have := ycl (x := i) (by omega)
    omega
  unfold yGfr
  rw [h.2 hW S hS hB, e4]
/-! of, the class -/
def yOfw (A : pvM) (S : List yCl) (n : Nat) : Int := ych A S (A.1 8 3) (A.1 8 2).toInt (ysI A) n (A.1 8 4).toInt
def yGof (w k : Int32) (A : pvM) (S : List yCl) : Int := if 0 ≤ w.toInt ∧ w.toInt < (A.1 8 1).toInt then (if k.toInt = 0 then (A.1 (60 + Int32.toNatClampNeg w) 0).toInt else if k.toInt = 1 then (A.1 (60 + Int32.toNatClampNeg w) 1).toInt else if k.toInt = 2 then (A.1 (60 + Int32.toNatClampNeg w) 2).toInt else if k.toInt = 3 then (A.1 (60 + Int32.toNatClampNeg w) 3).toInt else if k.toInt = 4 then (A.1 (60 + Int32.toNatClampNeg w) 4).toInt else if k.toInt = 5 then (if A.1 (60 + Int32.toNatClampNeg w) 5 = 0 then 0 else 1) else if k.toInt = 6 then zWy (yst9 A) (A.1 (60 + Int32.toNatClampNeg w) 2).toInt (A.1 (60 + Int32.toNatClampNeg w) 3).toInt (A.1 8 6).toInt (A.1 8 7).toInt else if k.toInt = 7 then yOfw A S (Int32.toNatClampNeg w) else -1) else -1
theorem yGof_n {w k x : Int32} {M : pvM} (h : ¬ zvl w (M.1 8 1)) (e : x.toInt = -1) : yAn (yGof w k) (some (pvI x)) M M := yAn_n (fun S => by unfold yGof; rw [if_neg (show ¬ (0 ≤ w.toInt ∧ w.toInt < (M.1 8 1).toInt) from h), e])
theorem yGof_c {w k x : Int32} {M : pvM} (h : zvl w (M.1 8 1)) (c : (k.toInt = 0 ∧ x = M.1 (pvbs 10 + Int32.toNatClampNeg w) 0) ∨ (k.toInt = 1 ∧ x = M.1 (pvbs 10 + Int32.toNatClampNeg w) 1) ∨ (k.toInt = 2 ∧ x = M.1 (pvbs 10 + Int32.toNatClampNeg w) 2) ∨ (k.toInt = 3 ∧ x = M.1 (pvbs 10 + Int32.toNatClampNeg w) 3) ∨ (k.toInt = 4 ∧ x = M.1 (pvbs 10 + Int32.toNatClampNeg w) 4) ∨ (k.toInt = 5 ∧ x.toInt = if M.1 (pvbs 10 + Int32.toNatClampNeg w) 5 = 0 then 0 else 1) ∨ (k.toInt = 6 ∧ x.toInt = zWy (Int32.toInt (M.1 (pvhp (M.1 8 8)) 0)) (Int32.toInt (M.1 (pvbs 10 + Int32.toNatClampNeg w) 2)) (Int32.toInt (M.1 (pvbs 10 + Int32.toNatClampNeg w) 3)) (Int32.toInt (M.1 8 6)) (Int32.toInt (M.1 8 7))) ∨ ((k.toInt < 0 ∨ 7 < k.toInt) ∧ x.toInt = -1)) : yAn (yGof w k) (some (pvI x)) M M := yAn_n (fun S => by
  have pb : pvbs 10 = 60 := rfl
  rw [pb] at c
  unfold yGof
  rw [if_pos (show 0 ≤ w.toInt ∧ w.toInt < (M.1 8 1).toInt from h)]
  rcases c with ⟨a, b⟩ | ⟨a, b⟩ | ⟨a, b⟩ | ⟨a, b⟩ | ⟨a, b⟩ | ⟨a, b⟩ | ⟨a, b⟩ | ⟨a, b⟩
  · rw [if_pos a, b]
  · rw [if_neg (by omega), if_pos a, b]
  · rw [if_neg (by omega), if_neg (by omega), if_pos a, b]
  · rw [if_neg (by omega), if_neg (by omega), if_neg (by omega), if_pos a, b]
  · rw [if_neg (by omega), if_neg (by omega), if_neg (by omega), if_neg (by omega), if_pos a, b]
  · rw [if_neg (by omega), if_neg (by omega), if_neg (by omega), if_neg (by omega), if_neg (by omega), if_pos a, b]
  · rw [if_neg (by omega), if_neg (by omega), if_neg (by omega), if_neg (by omega), if_neg (by omega), if_neg (by omega), if_pos a, b]
    rfl
  · rw [if_neg (by omega), if_neg (by omega), if_neg (by omega), if_neg (by omega), if_neg (by omega), if_neg (by omega), if_neg (by omega), if_neg (by omega), b])
theorem yGof_7 {w k x n3 : Int32} {M Z : pvM} (hok : pvOk M) (hZ : pvOk Z) (h : zvl w (M.1 8 1)) (b : yBN M Z) (hk : k.toInt = 7) (d : yHO Z w (Z.1 8 4) n3 x) (h3 : n3 = Z.1 8 4 + 1) : yAn (yGof w k) (some (pvI x)) M Z := yAn_i (yIm_B b) (fun hW S hS _ => by
  have L := (yIm_B b).1.1
  have e8 : Z.1 8 = M.1 8 := L 8 (by decide)
  have w7 := yWn_7 hok
  have wi := yWn_i hok
  have tw := ycl h.1
  have h1 := h.2
  have u1 : (1 : Int32).toInt = 1 := by decide
  have r4 := pvok_r hok 8 4 (lo := 0) (hi := 9999) rfl
  have r2 := pvok_r hok 8 2 (lo := 0) (hi := 99) rfl
  have l := yhl hok
  obtain ⟨z1, z2⟩ := (yIm_B b).1.2 hW
  have e := d z1 z2 (by rw [e8]; exact h1) S (yLk_C hok L hS)
  rw [h3, e8, zadd _ _ (by rw [u1]; omega) (by rw [u1]; omega), u1, show ((M.1 8 4).toInt + 1 - (M.1 8 4).toInt).toNat = 1 by omega, y9h_x, (yIm_B b).2.1, (yIm_B b).2.2, ych_k hok L (by omega)] at e
  rw [e]
  unfold yGof yOfw
  rw [if_pos (show 0 ≤ w.toInt ∧ w.toInt < (M.1 8 1).toInt from h), if_neg (by omega), if_neg (by omega), if_neg (by omega), if_neg (by omega), if_neg (by omega), if_neg (by omega), if_neg (by omega), if_pos hk]
  show (0 : Int) + ych M S (M.1 8 3) (M.1 8 2).toInt (fun v => (Z.1 12 v).toInt) (Int32.toNatClampNeg w) ((M.1 8 4).toInt + ((0 : Nat) : Int)) = _
  rw [show (M.1 8 4).toInt + ((0 : Nat) : Int) = (M.1 8 4).toInt by omega, ych_c (sh' := ysI M) (by omega) (fun v hv => Or.inl (ySh_B hok b v hv)) (by unfold yla; omega) r4.1]
  omega)
/-! the reference: COST of a path, of none, of her round -/
def yQ0 (n1 : Int32) (r : Option pvV) (M X : pvM) : Prop := (∀ q : Nat, q ≠ 143 → X.1 q = M.1 q) ∧ ∃ x : Int32, r = some (pvI x) ∧ ∀ (A : pvM) (S : List yCl) (p : Nat → Nat) (n : Nat), yCb A M S → yLaid M → Int32.toNatClampNeg (M.1 124 35) = n → (∀ i : Nat, i < n → ypa M 144 i = p i ∧ p i < yWn A) → x.toInt = yCp A S (M.1 124 4) (M.1 124 3).toInt p ((A.1 8 4).toInt + n1.toInt) n
theorem yLaid_3 {M X : pvM} (f : ∀ q : Nat, q ≠ 143 → X.1 q = M.1 q) (l : yLaid M) : yLaid X := yLaid_k (yL0_143 f) (congrFun (f 124 (by decide)) 4) (f 142 (by decide)) l
theorem yQ0_i {M Y Z : pvM} {n1 n2 x : Int32} {e : Option pvV} (hn : 0 ≤ n1.toInt ∧ n1.toInt ≤ 60) (hM : pvOk M) (hZ : pvOk Z) (o : yOn M Y) (g : yG0 0 (Y.1 124 35) ((Y.1 124 1) + n1) e Y Z) (d : yC0 Z x) : yQ0 n1 (some (pvI x)) M Z := by
  have F : ∀ q : Nat, q ≠ 143 → Z.1 q = M.1 q := fun q hq => (g.1 q hq).trans (o.1 q hq)
  refine ⟨F, x, rfl, fun A S p n h l hn2 hp => ?_⟩
  have r := pvok_r hM 124 1 (lo := 0) (hi := 9999) rfl
  have c124 : Y.1 124 = M.1 124 := o.1 124 (by decide)
  have hY := yCb_k h (yL0_143 o.1)
  obtain ⟨f, y, ey, e1, e2⟩ := yG0_a (p := p) (n := n) hY g (yOn_n o) (by rw [c124]; exact hn2) (fun i hi => by
    have z := hp i hi
    unfold ypa at z ⊢
    rw [o.1 144 (by decide)]
    exact z)
  have em : ((Y.1 124 1) + n1).toInt = (A.1 8 4).toInt + n1.toInt := by
    rw [c124, zadd _ _ (by omega) (by omega), h.1.2.2.2.1.1]
  rw [em] at e2
  have c4 := congrFun (F 124 (by decide)) 4
  have c3 := congrFun (F 124 (by decide)) 3
  rw [yCp_0 (yCc_k h.1 (yL0_143 F)) hZ (yLaid_3 F l) d e2, c4, c3]
def yQn (r : Option pvV) (M X : pvM) : Prop := (∀ q : Nat, q ≠ 143 → X.1 q = M.1 q) ∧ ∃ x : Int32, r = some (pvI x) ∧ ∀ (A : pvM) (S : List yCl) (sh : Nat → Int), yCc A M S → yLaid M → (∀ w : Nat, w < yWn A → yro (sh w) (yn0 M w).toInt) → x.toInt = yCs A S (M.1 124 4) (M.1 124 3).toInt sh
theorem yQn_i {M Y : pvM} {x : Int32} (hM : pvOk M) (o : yOn M Y) (d : yC0 Y x) : yQn (some (pvI x)) M Y := ⟨o.1, x, rfl, fun A S sh h l k => by
  have r := pvok_r hM 124 3 (lo := 0) (hi := 108) rfl
  have w7 := yWn_7 h.1.1
  have c4 := congrFun (o.1 124 (by decide)) 4
  have c3 := congrFun (o.1 124 (by decide)) 3
  rw [yC0_L (yCc_k h (yL0_143 o.1)) (yLaid_3 o.1 l) d, c4, c3]
  exact (yCs_c h.1.1 (fun w hw => by rw [o.2 w (by omega)]; exact k w hw) r.2).symm⟩
theorem yn0_I {A B : pvM} {S : List yCl} (h : yCb A B S) : ∀ w : Nat, w < yWn A → yro (ysI A w) (yn0 B w).toInt := fun w hw => by
  have w7 := yWn_7 h.1.1.1
  rw [← ysI_s (by omega)]
  exact yro_0 (h.2 w hw) rfl rfl
/-- the rain is laid for a SIDE and a COMES; her round is laid -/
def yJr (B X : pvM) (s c : Int32) : Prop := yL0 B X ∧ X.1 124 4 = s ∧ X.1 124 3 = c ∧ yLaid X
def yJp (B X : pvM) : Prop := X.1 124 35 = B.1 124 37 ∧ ∀ j : Nat, j < 7 → X.1 144 j = B.1 145 j
theorem yJr_R {B X : pvM} (h : yLR B X) : yJr B X (B.1 124 4) (B.1 124 3) := ⟨yL0_F h.1, h.1 124 4 (by decide) (by decide) (by decide), h.1 124 3 (by decide) (by decide) (by decide), yLR_L h⟩
theorem yJr_P {B X Y : pvM} {s c : Int32} (h : yJr B X s c) (p : yLP X Y) : yJr B Y s c ∧ yJp B Y := by
  have k := yL0_P p
  have f : ∀ b : Nat, b ≠ 35 → Y.1 124 b = X.1 124 b := fun b hb => p.1 124 b (by decide) (Or.inr hb)
  refine ⟨⟨yL0_t h.1 k, (f 4 (by decide)).trans h.2.1, (f 3 (by decide)).trans h.2.2.1, yLaid_k k (f 4 (by decide)) (funext fun b => p.1 142 b (by decide) (Or.inl (by decide))) h.2.2.2⟩, by rw [p.2.1]; exact h.1 124 37 (by decide), fun j hj => (p.2.2 j hj).trans (h.1 145 j rfl)⟩
theorem yJr_3 {B X Y : pvM} {s c : Int32} (h : yJr B X s c) (f : ∀ q : Nat, q ≠ 143 → Y.1 q = X.1 q) : yJr B Y s c := ⟨yL0_t h.1 (yL0_143 f), by rw [f 124 (by decide)]; exact h.2.1, by rw [f 124 (by decide)]; exact h.2.2.1, yLaid_3 f h.2.2.2⟩
theorem yJp_3 {B X Y : pvM} (h : yJp B X) (f : ∀ q : Nat, q ≠ 143 → Y.1 q = X.1 q) : yJp B Y := ⟨by rw [f 124 (by decide)]; exact h.1, fun j hj => by rw [f 144 (by decide)]; exact h.2 j hj⟩
theorem yJp_h {A B X : pvM} {S : List yCl} {s c : Int32} (h : yCb A B S) (hr : yCr A B) (j : yJr B X s c) (p : yJp B X) : yPh A B X S := ⟨yCb_k h j.1, p.1.trans hr.1.symm, p.2⟩
theorem yJp_p {A B X : pvM} {S : List yCl} {s c : Int32} (h : yCb A B S) (hr : yCr A B) (p : yJp B X) : Int32.toNatClampNeg (X.1 124 35) = yCr_n A ∧ ∀ i : Nat, i < yCr_n A → ypa X 144 i = yCr_p A i ∧ yCr_p A i < yWn A := by
  have hA := h.1.1.1
  refine ⟨by rw [p.1, ← hr.1]; rfl, fun i hi => ?_⟩
  have z := yCr_i hA hr hi
  have r7 := pvok_r hA 100 0 (lo := 0) (hi := 7) rfl
  have t := ycl r7.1
  have i7 : i < 7 := by unfold yCr_n at hi; omega
  unfold yCr_p
  refine ⟨?_, z.2.1⟩
  rw [z.1]
  unfold ypa
  rw [p.2 i i7]
/-- COST of a path there -/
theorem yQ0_m {A B X Y : pvM} {S : List yCl} {n1 s c x : Int32} {p : Nat → Nat} {n : Nat} (h : yCb A B S) (j : yJr B X s c) (d : yQ0 n1 (some (pvI x)) X Y) (hn : Int32.toNatClampNeg (X.1 124 35) = n) (hp : ∀ i : Nat, i < n → ypa X 144 i = p i ∧ p i < yWn A) : x.toInt = yCp A S s c.toInt p ((A.1 8 4).toInt + n1.toInt) n := by
  obtain ⟨_, y, ey, k⟩ := d
  have ey := zpI ey
  subst ey
  rw [k A S p n (yCb_k h j.1) j.2.2.2 hn hp, j.2.1, j.2.2.1]
theorem yQ0_r {A B X Y : pvM} {S : List yCl} {n1 s c x : Int32} (h : yCb A B S) (hr : yCr A B) (j : yJr B X s c) (p : yJp B X) (d : yQ0 n1 (some (pvI x)) X Y) : x.toInt = yCp A S s c.toInt (yCr_p A) ((A.1 8 4).toInt + n1.toInt) (yCr_n A) := by
  have z := yJp_p (s := s) (c := c) h hr p
  exact yQ0_m h j d z.1 z.2
def yQr (n1 : Int32) (r : Option pvV) (M X : pvM) : Prop := yJr M X (M.1 124 4) (M.1 124 3) ∧ ∃ x : Int32, r = some (pvI x) ∧ ∀ (A : pvM) (S : List yCl), yCb A M S → yCr A M → x.toInt = yCp A S (M.1 124 4) (M.1 124 3).toInt (yCr_p A) ((A.1 8 4).toInt + n1.toInt) (yCr_n A)
theorem yQr_i {M Y Z X : pvM} {n1 x : Int32} (l : yLR M Y) (p : yLP Y Z) (d : yQ0 n1 (some (pvI x)) Z X) : yQr n1 (some (pvI x)) M X := by
  obtain ⟨j, jp⟩ := yJr_P (yJr_R l) p
  have j3 := yJr_3 j d.1
  exact ⟨j3, x, rfl, fun A S h hr => yQ0_r h hr j jp d⟩
/-! round, the reference -/
theorem yGrd0_n {w x : Int32} {B : pvM} (h : w.toInt < 0 ∨ 2 < w.toInt) (e : x.toInt = -1) : yA0 (yGrd w) (some (pvI x)) B := yA0_n (fun A S => by unfold yGrd; rw [if_pos h, e])
theorem yGrd0_0 {w n1 : Int32} {B X : pvM} {r : Option pvV} (h : yQr n1 r B X) (hn : n1.toInt = 0) (c : ¬ (w.toInt < 0 ∨ 2 < w.toInt)) (d : w.toInt = 0) : yA0 (yGrd w) r B := fun A S a => by
  obtain ⟨_, x, ex, k⟩ := h
  refine ⟨x, ex, ?_⟩
  unfold yGrd yrC
  rw [if_neg c, if_pos d, k A S a.1 a.2.1, hn, a.2.2.2.1, a.2.2.2.2]
/-- behind layRound, layOpen, goes -/
def yRn0 (B X : pvM) (e : Option pvV) : Prop := yL0 B X ∧ X.1 124 3 = B.1 124 3 ∧ ∃ x : Int32, e = some (pvI x) ∧ ∀ (A : pvM) (S : List yCl), yCall A B S → x.toInt = (yrW A).1 ∧ ∀ w : Nat, w < yWn A → yro ((yrW A).2.2.2 w) (X.1 143 w).toInt
theorem yRn0_i {B Y Z X : pvM} {n1 : Int32} {e : Option pvV} (p : yLP B Y) (o : yOn Y Z) (g : yG0 0 (Z.1 124 35) (Z.1 124 1) e Z X) : yRn0 B X e := by
  have k : yL0 B X := yL0_t (yL0_t (yL0_P p) (yL0_143 o.1)) (yL0_143 g.1)
  refine ⟨k, by rw [g.1 124 (by decide), o.1 124 (by decide)]; exact p.1 124 3 (by decide) (Or.inr (by decide)), ?_⟩
  obtain ⟨f, x, ex, d⟩ := g
  refine ⟨x, ex, fun A S a => ?_⟩
  have hZ := yPh_3 (yPh_P a.1 a.2.1 (yL0_r B) p) o.1
  obtain ⟨_, y, ey, e1, e2⟩ := yRd_0 a.2.1 hZ (yOn_n o) ⟨f, x, rfl, d⟩
  have ey := zpI ey
  subst ey
  have m1 : (Z.1 124 1).toInt = (A.1 8 4).toInt := by rw [hZ.1.1.2.2.2.1.1]
  rw [m1] at e1 e2
  exact ⟨e1, e2⟩
theorem yGrd0_1 {w x : Int32} {B X : pvM} (h : yRn0 B X (some (pvI x))) (c : ¬ (w.toInt < 0 ∨ 2 < w.toInt)) (d : w.toInt = 1) : yA0 (yGrd w) (some (pvI x)) B := fun A S a => by
  obtain ⟨_, _, y, ey, k⟩ := h
  refine ⟨x, rfl, ?_⟩
  unfold yGrd
  rw [if_neg c, if_neg (by omega), if_pos d, zpI ey, (k A S a).1]
def yS0 (B X : pvM) (n i : Int32) : Prop := (∃ e : Option pvV, yRn0 B X e) ∧ i.toInt ≤ (B.1 124 37).toInt ∧ n.toInt = yit (fun v => (X.1 143 v).toInt) (ypa B 145) (B.1 124 3).toInt (Int32.toNatClampNeg i)
theorem yS0_0 {B X : pvM} {e : Option pvV} {n i : Int32} (hB : pvOk B) (h : yRn0 B X e) (hn : n.toInt = 0) (hi : i.toInt = 0) : yS0 B X n i := by
  have r := pvok_r hB 124 37 (lo := 0) (hi := 7) rfl
  have e0 : Int32.toNatClampNeg i = 0 := by
    have := ycl (x := i) (by omega)
    omega
  exact ⟨⟨e, h⟩, by omega, by rw [e0]; exact hn⟩
theorem yS0_s {B X : pvM} {n n' d i i' : Int32} (hB : pvOk B) (h : yS0 B X n i) (h0 : 0 ≤ i.toInt) (hl : ¬ X.1 124 37 ≤ i) (h2 : i'.toInt = i.toInt + 1) (c : (X.1 143 (Int32.toNatClampNeg (X.1 145 (Int32.toNatClampNeg i))) ≤ X.1 124 3 ∧ d.toInt = 1) ∨ (¬ X.1 143 (Int32.toNatClampNeg (X.1 145 (Int32.toNatClampNeg i))) ≤ X.1 124 3 ∧ d.toInt = 0)) (hn : n' = n + d) : yS0 B X n' i' := by
  obtain ⟨⟨e, a⟩, b, k⟩ := h
  have r := pvok_r hB 124 37 (lo := 0) (hi := 7) rfl
  have t := ycl h0
  have t2 : Int32.toNatClampNeg i' = Int32.toNatClampNeg i + 1 := by
    have := ycl (x := i') (by omega)
    omega
  rw [a.1 124 37 (by decide), zi_le] at hl
  rw [a.2.1, a.1 145 _ rfl] at c
  have bd := yit_b (sh := fun v => (X.1 143 v).toInt) (p := ypa B 145) (co := (B.1 124 3).toInt) (Int32.toNatClampNeg i)
  refine ⟨⟨e, a⟩, by omega, ?_⟩
  rw [t2]
  show _ = if (X.1 143 (Int32.toNatClampNeg (B.1 145 (Int32.toNatClampNeg i)))).toInt ≤ (B.1 124 3).toInt then _ else _
  rcases c with ⟨c, q⟩ | ⟨c, q⟩
  · rw [if_pos ((zi_le _ _).mp c), hn, zadd _ _ (by omega) (by omega), k, q]
  · rw [if_neg (fun z => c ((zi_le _ _).mpr z)), hn, zadd _ _ (by omega) (by omega), k, q, Int.add_zero]
theorem yGrd0_2 {w n i : Int32} {B X : pvM} (h : yS0 B X n i) (h0 : 0 ≤ i.toInt) (hl : X.1 124 37 ≤ i) (c : ¬ (w.toInt < 0 ∨ 2 < w.toInt)) (c0 : ¬ w.toInt = 0) (c1 : ¬ w.toInt = 1) : yA0 (yGrd w) (some (pvI n)) B := fun A S a => by
  obtain ⟨⟨e, k0, k3, y, ey, k⟩, b, q⟩ := h
  have hA := a.1.1.1.1
  rw [k0 124 37 (by decide), zi_le] at hl
  have ei : B.1 124 37 = i := (zi_eq _ _).mpr (by omega)
  have en : Int32.toNatClampNeg i = yCr_n A := by rw [← ei, ← a.2.1.1]; rfl
  refine ⟨n, rfl, ?_⟩
  unfold yGrd
  rw [if_neg c, if_neg c0, if_neg c1, q, en, ← a.2.2.2.1]
  refine (yit_c (fun i hi => ?_)).symm
  have z := yCr_i hA a.2.1 hi
  have r2 := pvok_r hA 8 2 (lo := 0) (hi := 99) rfl
  refine ⟨z.1, ?_⟩
  have v := (k A S a).2 _ z.2.1
  unfold yCr_p
  have m := yro_m (m := (A.1 8 2).toInt) v r2.1 (by omega)
  show (yrW A).2.2.2 (ypa A 108 i) ≤ (A.1 8 2).toInt ↔ (X.1 143 (ypa A 108 i)).toInt ≤ (A.1 8 2).toInt
  omega
/-! late, the reference -/
theorem yQ0_j {B X Y : pvM} {n1 s c : Int32} {r : Option pvV} (j : yJr B X s c) (d : yQ0 n1 r X Y) : yJr B Y s c := yJr_3 j d.1
def yLt0 (B X : pvM) (q i : Int32) : Prop := yJr B X (B.1 124 4) (B.1 124 3) ∧ yJp B X ∧ ∀ (A : pvM) (S : List yCl), yCall A B S → yLt (yrC A S) q.toInt 61 = yLt (yrC A S) q.toInt (i.toInt + 1).toNat
theorem yLt0_0 {B Y X : pvM} {q i : Int32} (l : yLR B Y) (p : yLP Y X) (hi : i.toInt = 60) : yLt0 B X q i := by
  obtain ⟨j, jp⟩ := yJr_P (yJr_R l) p
  exact ⟨j, jp, fun _ _ _ => by rw [hi]; rfl⟩
theorem yLt0_c {B X Y : pvM} {q i x : Int32} (h : yLt0 B X q i) (hi : 0 ≤ i.toInt) (d : yQ0 i (some (pvI x)) X Y) {A : pvM} {S : List yCl} (a : yCall A B S) : yLt (yrC A S) q.toInt 61 = if x.toInt ≤ q.toInt then i.toInt else yLt (yrC A S) q.toInt i.toInt.toNat := by
  rw [h.2.2 A S a, show (i.toInt + 1).toNat = i.toInt.toNat + 1 by omega, yQ0_r a.1 a.2.1 h.1 h.2.1 d, ← a.2.2.2.1, ← a.2.2.2.2]
  show (if yrC A S ((i.toInt.toNat : Nat) : Int) ≤ q.toInt then ((i.toInt.toNat : Nat) : Int) else _) = _
  rw [show ((i.toInt.toNat : Nat) : Int) = i.toInt by omega]
  rfl
theorem yLt0_s {B X Y : pvM} {q i i' x : Int32} (h : yLt0 B X q i) (hi : 0 ≤ i.toInt) (d : yQ0 i (some (pvI x)) X Y) (c : ¬ x ≤ q) (hi2 : i'.toInt = i.toInt - 1) : yLt0 B Y q i' := ⟨yJr_3 h.1 d.1, yJp_3 h.2.1 d.1, fun A S a => by
  rw [yLt0_c h hi d a, if_neg (fun z => c ((zi_le _ _).mpr z)), hi2, show i.toInt - 1 + 1 = i.toInt by omega]⟩
theorem yGlt0_n {B : pvM} {q x : Int32} (h : q.toInt < 0 ∨ 99999 < q.toInt) (e : x.toInt = -2) : yA0 (yGlt q) (some (pvI x)) B := yA0_n (fun A S => by unfold yGlt; rw [if_pos h, e])
theorem yGlt0_y {B X Y : pvM} {q i x : Int32} (h : yLt0 B X q i) (hq : 0 ≤ q.toInt ∧ q.toInt ≤ 99999) (hi : 0 ≤ i.toInt) (d : yQ0 i (some (pvI x)) X Y) (c : x ≤ q) : yA0 (yGlt q) (some (pvI i)) B := fun A S a => ⟨i, rfl, by
  unfold yGlt
  rw [if_neg (by omega), yLt0_c h hi d a, if_pos ((zi_le _ _).mp c)]⟩
theorem yGlt0_e {B X : pvM} {q i x : Int32} (h : yLt0 B X q i) (hq : 0 ≤ q.toInt ∧ q.toInt ≤ 99999) (hi : i.toInt < 0) (e : x.toInt = -5) : yA0 (yGlt q) (some (pvI x)) B := fun A S a => ⟨x, rfl, by
  unfold yGlt
  rw [if_neg (by omega), h.2.2 A S a, show (i.toInt + 1).toNat = 0 by omega, e]
  rfl⟩
/-! next, the reference -/
def yNx0 (B X : pvM) (f l w : Int32) : Prop := yJr B X (B.1 124 4) (B.1 124 3) ∧ w.toInt ≤ (B.1 124 0).toInt ∧ ∀ (A : pvM) (S : List yCl), yCall A B S → f.toInt = (yNx A S (Int32.toNatClampNeg w)).1 ∧ l.toInt = (yNx A S (Int32.toNatClampNeg w)).2
theorem yNx0_0 {B X : pvM} {f l w : Int32} (hB : pvOk B) (h : yLR B X) (hf : f.toInt = -5) (hl : l.toInt = 0) (hw : w.toInt = 0) : yNx0 B X f l w := by
  have r := pvok_r hB 124 0 (lo := 0) (hi := 7) rfl
  have e0 : Int32.toNatClampNeg w = 0 := by
    have := ycl (x := w) (by omega)
    omega
  exact ⟨yJr_R h, by omega, fun _ _ _ => by rw [e0]; exact ⟨hf, hl⟩⟩
theorem yNx_b (A : pvM) (S : List yCl) : ∀ n : Nat, (yNx A S n).1 = -5 ∨ 0 ≤ (yNx A S n).1
  | 0 => Or.inl rfl
  | n + 1 => by
    have i := yNx_b A S n
    show (if A.1 (60 + n) 5 = 0 then (if (yNx A S n).1 = -5 ∨ yN1 A S n < (yNx A S n).2 then ((n : Int), yN1 A S n) else yNx A S n) else yNx A S n : Int × Int).1 = -5 ∨ 0 ≤ (if A.1 (60 + n) 5 = 0 then (if (yNx A S n).1 = -5 ∨ yN1 A S n < (yNx A S n).2 then ((n : Int), yN1 A S n) else yNx A S n) else yNx A S n : Int × Int).1
    split
    · split
      · exact Or.inr (Int.natCast_nonneg n)
      · exact i
    · exact i
theorem yNx_s {A : pvM} {S : List yCl} {n : Nat} : yNx A S (n + 1) = if A.1 (60 + n) 5 = 0 then (if (yNx A S n).1 = -5 ∨ yN1 A S n < (yNx A S n).2 then ((n : Int), yN1 A S n) else yNx A S n) else yNx A S n := rfl
theorem yNx0_z {B X : pvM} {f l w w' : Int32} (h : yNx0 B X f l w) (hw : 0 ≤ w.toInt) (hl : ¬ X.1 124 0 ≤ w) (c : ¬ X.1 131 (Int32.toNatClampNeg w) = 0) (h2 : w'.toInt = w.toInt + 1) : yNx0 B X f l w' := by
  have k := h.1.1
  rw [k 124 0 (by decide), zi_le] at hl
  rw [k 131 _ (yf0_p (by decide) (by decide))] at c
  have t := ycl hw
  have t2 : Int32.toNatClampNeg w' = Int32.toNatClampNeg w + 1 := by
    have := ycl (x := w') (by omega)
    omega
  refine ⟨h.1, by omega, fun A S a => ?_⟩
  have hA := a.1.1.1.1
  have wi := yWn_i hA
  have e8 := congrArg Int32.toInt a.1.1.2.1
  rw [t2, yNx_s, if_neg (by rw [a.1.2 _ (by omega)]; exact c)]
  exact h.2.2 A S a
theorem yNx0_c {B X Y Z W : pvM} {f l w w' x v n1 : Int32} (h : yNx0 B X f l w) (hw : 0 ≤ w.toInt) (hl : ¬ X.1 124 0 ≤ w) (c : X.1 131 (Int32.toNatClampNeg w) = 0) (e1 : Y = pvu X 124 35 v) (hv : v.toInt = 1) (e2 : Z = pvu Y 144 (Int32.toNatClampNeg 0) w) (d : yQ0 n1 (some (pvI x)) Z W) (hn : n1.toInt = 0) (h2 : w'.toInt = w.toInt + 1) : yJr B W (B.1 124 4) (B.1 124 3) ∧ w'.toInt ≤ (B.1 124 0).toInt ∧ ∀ (A : pvM) (S : List yCl), yCall A B S → yNx A S (Int32.toNatClampNeg w') = if f.toInt < 0 ∨ x.toInt < l.toInt then (w.toInt, x.toInt) else yNx A S (Int32.toNatClampNeg w) := by
  obtain ⟨⟨k, k4, k3, kl⟩, hb, g⟩ := h
  have kY : yL0 X Y := yL0_u e1 rfl
  have kZ : yL0 Y Z := yL0_u e2 rfl
  have k2 := yL0_t kY kZ
  have f4 : ∀ b : Nat, b ≠ 35 → Z.1 124 b = X.1 124 b := fun b hb => (pvu_n e2 124 b (Or.inl (by decide))).trans (pvu_n e1 124 b (Or.inr hb))
  have j : yJr B Z (B.1 124 4) (B.1 124 3) := ⟨yL0_t k k2, (f4 4 (by decide)).trans k4, (f4 3 (by decide)).trans k3, yLaid_k k2 (f4 4 (by decide)) (funext fun b => (pvu_n e2 142 b (Or.inl (by decide))).trans (pvu_n e1 142 b (Or.inl (by decide)))) kl⟩
  rw [k 124 0 (by decide), zi_le] at hl
  rw [k 131 _ (yf0_p (by decide) (by decide))] at c
  have t := ycl hw
  have t2 : Int32.toNatClampNeg w' = Int32.toNatClampNeg w + 1 := by
    have := ycl (x := w') (by omega)
    omega
  refine ⟨yJr_3 j d.1, by omega, fun A S a => ?_⟩
  have hA := a.1.1.1.1
  have wi := yWn_i hA
  have e8 := congrArg Int32.toInt a.1.1.2.1
  have n35 : Int32.toNatClampNeg (Z.1 124 35) = 1 := by
    rw [pvu_n e2 124 35 (Or.inl (by decide)), pvu_s e1]
    have := ycl (x := v) (by omega)
    omega
  have e := yQ0_m (p := fun _ => Int32.toNatClampNeg w) (n := 1) a.1 j d n35 (fun i hi => by
    have i0 : i = 0 := by omega
    subst i0
    unfold ypa
    have z := pvu_s e2
    rw [ycl0] at z
    rw [z]
    exact ⟨rfl, by omega⟩)
  rw [hn, Int.add_zero, ← a.2.2.2.1, ← a.2.2.2.2] at e
  have e : x.toInt = yN1 A S (Int32.toNatClampNeg w) := e
  obtain ⟨g1, g2⟩ := g A S a
  have nb := yNx_b A S (Int32.toNatClampNeg w)
  rw [t2, yNx_s, if_pos (by rw [a.1.2 _ (by omega)]; exact c), e, g1, g2, t]
  by_cases q : (yNx A S (Int32.toNatClampNeg w)).1 = -5 ∨ yN1 A S (Int32.toNatClampNeg w) < (yNx A S (Int32.toNatClampNeg w)).2
  · rw [if_pos q, if_pos (by omega)]
  · rw [if_neg q, if_neg (by omega)]
theorem yNx0_y {B X Y Z W : pvM} {f l w w' x v n1 : Int32} (h : yNx0 B X f l w) (hw : 0 ≤ w.toInt) (hl : ¬ X.1 124 0 ≤ w) (c : X.1 131 (Int32.toNatClampNeg w) = 0) (e1 : Y = pvu X 124 35 v) (hv : v.toInt = 1) (e2 : Z = pvu Y 144 (Int32.toNatClampNeg 0) w) (d : yQ0 n1 (some (pvI x)) Z W) (hn : n1.toInt = 0) (h2 : w'.toInt = w.toInt + 1) (k : f.toInt < 0 ∨ x.toInt < l.toInt) : yNx0 B W w x w' := by
  obtain ⟨a, b, e⟩ := yNx0_c h hw hl c e1 hv e2 d hn h2
  exact ⟨a, b, fun A S q => by rw [e A S q, if_pos k]; exact ⟨rfl, rfl⟩⟩
theorem yNx0_n {B X Y Z W : pvM} {f l w w' x v n1 : Int32} (h : yNx0 B X f l w) (hw : 0 ≤ w.toInt) (hl : ¬ X.1 124 0 ≤ w) (c : X.1 131 (Int32.toNatClampNeg w) = 0) (e1 : Y = pvu X 124 35 v) (hv : v.toInt = 1) (e2 : Z = pvu Y 144 (Int32.toNatClampNeg 0) w) (d : yQ0 n1 (some (pvI x)) Z W) (hn : n1.toInt = 0) (h2 : w'.toInt = w.toInt + 1) (k : ¬ f.toInt < 0 ∧ ¬ x.toInt < l.toInt) : yNx0 B W f l w' := by
  obtain ⟨a, b, e⟩ := yNx0_c h hw hl c e1 hv e2 d hn h2
  exact ⟨a, b, fun A S q => by rw [e A S q, if_neg (fun z => z.elim k.1 k.2)]; exact h.2.2 A S q⟩
theorem yGnx0_e {B X : pvM} {f l w : Int32} (h : yNx0 B X f l w) (c : X.1 124 0 ≤ w) : yA0 yGnx (some (pvI f)) B := fun A S a => ⟨f, rfl, by
  rw [h.1.1 124 0 (by decide), zi_le] at c
  have e : B.1 124 0 = w := (zi_eq _ _).mpr (by have := h.2.1; omega)
  have ew : yWn A = Int32.toNatClampNeg w := by rw [← e, yCb_W a.1.1]
  unfold yGnx
  rw [ew, (h.2.2 A S a).1]⟩
/-! leave, the reference -/
def yLv0 (B X : pvM) (w b i : Int32) : Prop := yJr B X (B.1 124 4) (B.1 124 3) ∧ i.toInt ≤ (B.1 124 37).toInt ∧ ∀ (A : pvM) (S : List yCl), yCall A B S → w.toInt = yrC A S 0 ∧ b = yLv A S (Int32.toNatClampNeg i)
/-- the round but for one is laid as far as k -/
def yLvP (B X : pvM) (i k : Int32) : Prop := (X.1 124 35).toInt = ysn (Int32.toNatClampNeg i) (Int32.toNatClampNeg k) ∧ ∀ j : Nat, j < ysn (Int32.toNatClampNeg i) (Int32.toNatClampNeg k) → ypa X 144 j = ysk (ypa B 145) (Int32.toNatClampNeg i) j
def yLv1 (B X : pvM) (w b i k : Int32) : Prop := (yLv0 B X w b i ∧ i.toInt < (B.1 124 37).toInt) ∧ k.toInt ≤ (B.1 124 37).toInt ∧ yLvP B X i k
theorem yJr_u {B X Y : pvM} {s c v : Int32} {q k : Nat} (j : yJr B X s c) (e : Y = pvu X q k v) (h : (q = 124 ∧ k = 35) ∨ q = 144) : yJr B Y s c := by
  have kY : yL0 X Y := yL0_u e (by rcases h with ⟨h, h2⟩ | h <;> subst h <;> first | (subst h2; rfl) | rfl)
  exact ⟨yL0_t j.1 kY, (pvu_n e 124 4 (by omega)).trans j.2.1, (pvu_n e 124 3 (by omega)).trans j.2.2.1, yLaid_k kY (pvu_n e 124 4 (by omega)) (funext fun b => pvu_n e 142 b (by omega)) j.2.2.2⟩
theorem yLv0_u {B X Y : pvM} {w b i v : Int32} {q k : Nat} (h : yLv0 B X w b i) (e : Y = pvu X q k v) (hq : (q = 124 ∧ k = 35) ∨ q = 144) : yLv0 B Y w b i := ⟨yJr_u h.1 e hq, h.2⟩
theorem yLv1_0 {B X Y : pvM} {w b i v k : Int32} (hB : pvOk B) (h : yLv0 B X w b i) (hl : ¬ X.1 124 37 ≤ i) (e : Y = pvu X 124 35 v) (hv : v.toInt = 0) (hk : k.toInt = 0) : yLv1 B Y w b i k := by
  have r := pvok_r hB 124 37 (lo := 0) (hi := 7) rfl
  have k0 : Int32.toNatClampNeg k = 0 := by
    have := ycl (x := k) (by omega)
    omega
  have z : ysn (Int32.toNatClampNeg i) 0 = 0 := by
    unfold ysn
    rw [if_neg (Nat.not_lt_zero _)]
  rw [h.1.1 124 37 (by decide), zi_le] at hl
  refine ⟨⟨yLv0_u h e (Or.inl ⟨rfl, rfl⟩), by omega⟩, by omega, ?_⟩
  unfold yLvP
  rw [k0, z, pvu_s e]
  exact ⟨hv, fun j hj => absurd hj (Nat.not_lt_zero _)⟩
theorem yLv1_n {B X : pvM} {w b i k k' : Int32} (h : yLv1 B X w b i k) (h0 : 0 ≤ k.toInt) (hl : ¬ X.1 124 37 ≤ k) (c : k = i) (h2 : k'.toInt = k.toInt + 1) : yLv1 B X w b i k' := by
  obtain ⟨a, bb, d⟩ := h
  subst c
  rw [a.1.1.1 124 37 (by decide), zi_le] at hl
  have t := ycl h0
  have t2 : Int32.toNatClampNeg k' = Int32.toNatClampNeg k + 1 := by
    have := ycl (x := k') (by omega)
    omega
  have e : ysn (Int32.toNatClampNeg k) (Int32.toNatClampNeg k') = ysn (Int32.toNatClampNeg k) (Int32.toNatClampNeg k) := by
    unfold ysn
    rw [t2, if_pos (by omega), if_neg (by omega)]
    omega
  refine ⟨a, by omega, ?_⟩
  unfold yLvP
  rw [e]
  exact d
theorem yLv1_y {B X Y Z : pvM} {w b i k k' v u : Int32} (hX : pvOk X) (hB : pvOk B) (h : yLv1 B X w b i k) (h0 : 0 ≤ k.toInt) (hi : 0 ≤ i.toInt) (hl : ¬ X.1 124 37 ≤ k) (c : ¬ k = i) (e1 : Y = pvu X 144 (Int32.toNatClampNeg (X.1 124 35)) v) (hv : v = X.1 145 (Int32.toNatClampNeg k)) (e2 : Z = pvu Y 124 35 u) (hu : u = Y.1 124 35 + 1) (h2 : k'.toInt = k.toInt + 1) : yLv1 B Z w b i k' := by
  obtain ⟨a, bb, d1, d2⟩ := h
  have kk := a.1.1.1
  rw [kk 124 37 (by decide), zi_le] at hl
  have r7 := pvok_r hB 124 37 (lo := 0) (hi := 7) rfl
  have rx := pvok_r hX 124 35 (lo := 0) (hi := 7) rfl
  have tx := ycl rx.1
  have t := ycl h0
  have ti := ycl hi
  have u1 : (1 : Int32).toInt = 1 := by decide
  have t2 : Int32.toNatClampNeg k' = Int32.toNatClampNeg k + 1 := by
    have := ycl (x := k') (by omega)
    omega
  have ne : Int32.toNatClampNeg k ≠ Int32.toNatClampNeg i := fun z => c ((zi_eq _ _).mpr (by omega))
  have e : ysn (Int32.toNatClampNeg i) (Int32.toNatClampNeg k') = ysn (Int32.toNatClampNeg i) (Int32.toNatClampNeg k) + 1 := by
    unfold ysn
    rw [t2]
    split <;> split <;> omega
  have c35 : Y.1 124 35 = X.1 124 35 := pvu_n e1 124 35 (Or.inl (by decide))
  refine ⟨⟨yLv0_u (yLv0_u a.1 e1 (Or.inr rfl)) e2 (Or.inl ⟨rfl, rfl⟩), a.2⟩, by omega, ?_, fun j hj => ?_⟩
  · rw [pvu_s e2, hu, c35, zadd _ _ (by rw [u1]; omega) (by rw [u1]; omega), u1, d1, e]
    omega
  · rw [e] at hj
    unfold ypa at d2 ⊢
    rw [pvu_n e2 144 j (Or.inl (by decide))]
    by_cases q : j = Int32.toNatClampNeg (X.1 124 35)
    · rw [q, pvu_s e1, hv, kk 145 _ rfl]
      have jq : Int32.toNatClampNeg (X.1 124 35) = ysn (Int32.toNatClampNeg i) (Int32.toNatClampNeg k) := by omega
      unfold ysk
      rw [jq]
      unfold ysn
      split
      · rw [if_neg (by omega), show Int32.toNatClampNeg k - 1 + 1 = Int32.toNatClampNeg k by omega]
      · rw [if_pos (by omega)]
    · rw [pvu_n e1 144 j (Or.inr q)]
      exact d2 j (by omega)
theorem yLv0_c {B X Y : pvM} {w b i k x n1 : Int32} (h : yLv1 B X w b i k) (hk : 0 ≤ k.toInt) (hi : 0 ≤ i.toInt) (hl : X.1 124 37 ≤ k) (d : yQ0 n1 (some (pvI x)) X Y) (hn : n1.toInt = 0) {A : pvM} {S : List yCl} (a : yCall A B S) : x.toInt = ylC A S (Int32.toNatClampNeg i) := by
  obtain ⟨⟨h0, hli⟩, hb, d1, d2⟩ := h
  have hA := a.1.1.1.1
  rw [h0.1.1 124 37 (by decide), zi_le] at hl
  have ek : B.1 124 37 = k := (zi_eq _ _).mpr (by omega)
  have en : Int32.toNatClampNeg k = yCr_n A := by rw [← ek, ← a.2.1.1]; rfl
  rw [en] at d1 d2
  have pp : ∀ j : Nat, j < yCr_n A → ypa B 145 j = yCr_p A j ∧ yCr_p A j < yWn A := fun j hj => by
    have z := yCr_i hA a.2.1 hj
    unfold yCr_p
    exact ⟨z.1.symm, z.2.1⟩
  have e := yQ0_m (p := ysk (yCr_p A) (Int32.toNatClampNeg i)) (n := ysn (Int32.toNatClampNeg i) (yCr_n A)) a.1 h0.1 d (by have := ycl (x := X.1 124 35) (by omega); omega) (fun j hj => by
    have sk : ∀ f g : Nat → Nat, (∀ t : Nat, t < yCr_n A → f t = g t) → ysk f (Int32.toNatClampNeg i) j = ysk g (Int32.toNatClampNeg i) j := fun f g q => by
      unfold ysk
      unfold ysn at hj
      split
      · exact q _ (by split at hj <;> omega)
      · refine q _ ?_
        split at hj <;> omega
    rw [d2 j hj]
    refine ⟨sk _ _ (fun t ht => (pp t ht).1), ?_⟩
    unfold ysk
    unfold ysn at hj
    split
    · exact (pp _ (by split at hj <;> omega)).2
    · exact (pp _ (by split at hj <;> omega)).2)
  rw [hn, Int.add_zero, ← a.2.2.2.1, ← a.2.2.2.2] at e
  exact e
theorem yLv0_s {B X Y : pvM} {w b b' i i' k x n1 : Int32} (hB : pvOk B) (h : yLv1 B X w b i k) (hk : 0 ≤ k.toInt) (hi : 0 ≤ i.toInt) (hl : X.1 124 37 ≤ k) (d : yQ0 n1 (some (pvI x)) X Y) (hn : n1.toInt = 0) (h2 : i'.toInt = i.toInt + 1) (c : (x ≤ w ∧ b' = b ||| (1 <<< (Y.1 145 (Int32.toNatClampNeg i) &&& 31))) ∨ (¬ x ≤ w ∧ b' = b ||| 0)) : yLv0 B Y w b' i' := by
  have h0 := h.1.1
  have hli := h.1.2
  have t := ycl hi
  have t2 : Int32.toNatClampNeg i' = Int32.toNatClampNeg i + 1 := by
    have := ycl (x := i') (by omega)
    omega
  have jY := yJr_3 h0.1 d.1
  refine ⟨jY, by omega, fun A S a => ?_⟩
  have hA := a.1.1.1.1
  obtain ⟨g1, g2⟩ := h0.2.2 A S a
  have e := yLv0_c h hk hi hl d hn a
  have r7 := pvok_r hB 124 37 (lo := 0) (hi := 7) rfl
  have e108 : A.1 108 (Int32.toNatClampNeg i) = Y.1 145 (Int32.toNatClampNeg i) := ((a.2.1.2 _ (by omega) (by rw [a.2.1.1]; omega)).1).trans (jY.1 145 _ rfl).symm
  refine ⟨g1, ?_⟩
  rw [t2]
  show _ = if ylC A S (Int32.toNatClampNeg i) ≤ yrC A S 0 then yLv A S (Int32.toNatClampNeg i) ||| (1 <<< (A.1 108 (Int32.toNatClampNeg i) &&& 31)) else yLv A S (Int32.toNatClampNeg i)
  rw [e108, ← g2, ← e, ← g1]
  rcases c with ⟨c, q⟩ | ⟨c, q⟩
  · rw [if_pos ((zi_le _ _).mp c), q]
  · rw [if_neg (fun z => c ((zi_le _ _).mpr z)), q, Int32.or_zero]
theorem yGlv0_e {B X : pvM} {w b i : Int32} (h : yLv0 B X w b i) (c : X.1 124 37 ≤ i) : yA0 yGlv (some (pvI b)) B := fun A S a => ⟨b, rfl, by
  rw [h.1.1 124 37 (by decide), zi_le] at c
  have e : B.1 124 37 = i := (zi_eq _ _).mpr (by have := h.2.1; omega)
  unfold yGlv
  rw [(h.2.2 A S a).2, show yCr_n A = Int32.toNatClampNeg i from by rw [← e, ← a.2.1.1]; rfl]⟩
theorem yLv0_0 {B X : pvM} {w b i n1 : Int32} (hB : pvOk B) (d : yQr n1 (some (pvI w)) B X) (hn : n1.toInt = 0) (hb : b = 0) (hi : i.toInt = 0) : yLv0 B X w b i := by
  have r7 := pvok_r hB 124 37 (lo := 0) (hi := 7) rfl
  have i0 : Int32.toNatClampNeg i = 0 := by
    have := ycl (x := i) (by omega)
    omega
  refine ⟨d.1, by omega, fun A S a => ⟨?_, by rw [i0, hb]; rfl⟩⟩
  obtain ⟨_, y, ey, k⟩ := d
  have ey := zpI ey
  subst ey
  rw [k A S a.1 a.2.1, hn, ← a.2.2.2.1, ← a.2.2.2.2]
  rfl
