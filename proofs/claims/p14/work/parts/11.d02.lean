/-! rows of windows: searched, appended to, copied -/
abbrev zhas (f : Nat → Int32) (n : Nat) (w : Int32) : Prop := ∃ i : Nat, i < n ∧ f i = w
theorem zhas_c {f g : Nat → Int32} {n : Nat} {w : Int32} (h : ∀ i : Nat, i < n → f i = g i) : zhas f n w ↔ zhas g n w := ⟨fun ⟨i, a, b⟩ => ⟨i, a, (h i a).symm.trans b⟩, fun ⟨i, a, b⟩ => ⟨i, a, (h i a).trans b⟩⟩
theorem znm_0 (f : Nat → Int32) (w : Int32) : ∀ j : Nat, j < Int32.toNatClampNeg 0 → f j ≠ w := fun j h => absurd h (Nat.not_lt_zero j)
theorem znm_s {f : Nat → Int32} {w i : Int32} {a b : Int} (hr : a ≤ i.toInt ∧ i.toInt ≤ b) (ha : 0 ≤ a) (hb : b ≤ 1000) (h : ∀ j : Nat, j < Int32.toNatClampNeg i → f j ≠ w) (ne : ¬ f (Int32.toNatClampNeg i) = w) : ∀ j : Nat, j < Int32.toNatClampNeg (i + 1) → f j ≠ w := by
  intro j hj
  rw [znp1 hr ha hb] at hj
  by_cases c : j = Int32.toNatClampNeg i
  · subst c
    exact ne
  · exact h j (by omega)
theorem znm_i {f : Nat → Int32} {w i n : Int32} (h0 : 0 ≤ i.toInt) (hl : ¬ n ≤ i) (e : f (Int32.toNatClampNeg i) = w) : zhas f (Int32.toNatClampNeg n) w := by
  rw [zi_le] at hl
  exact ⟨_, (show i.toInt.toNat < n.toInt.toNat by omega), e⟩
theorem znm_o {f : Nat → Int32} {w i n : Int32} (h : ∀ j : Nat, j < Int32.toNatClampNeg i → f j ≠ w) (hl : n ≤ i) : ¬ zhas f (Int32.toNatClampNeg n) w := by
  rw [zi_le] at hl
  rintro ⟨j, a, b⟩
  have a : j < n.toInt.toNat := a
  exact h j (show j < i.toInt.toNat by omega) b
/-- one more in a row of windows with numbers -/
def zAp (q a b cap : Nat) (n1 n2 : Int32) (M X : pvM) : Prop := ((M.1 q 0).toInt < cap → (∀ j : Nat, X.1 a j = if j = Int32.toNatClampNeg (M.1 q 0) then n1 else M.1 a j) ∧ (∀ j : Nat, X.1 b j = if j = Int32.toNatClampNeg (M.1 q 0) then n2 else M.1 b j)) ∧ (¬ (M.1 q 0).toInt < cap → (∀ j : Nat, X.1 a j = M.1 a j) ∧ (∀ j : Nat, X.1 b j = M.1 b j))
theorem zAp_y {q a b cap : Nat} {n1 n2 v : Int32} {M Y Z X : pvM} (ab : a ≠ b) (aq : a ≠ q) (bq : b ≠ q) (hr : (M.1 q 0).toInt < cap) (e1 : Y = pvu M a (Int32.toNatClampNeg (M.1 q 0)) n1) (e2 : Z = pvu Y b (Int32.toNatClampNeg (Y.1 q 0)) n2) (e3 : X = pvu Z q 0 v) : zAp q a b cap n1 n2 M X := by
  have c : Y.1 q 0 = M.1 q 0 := pvu_n e1 q 0 (Or.inl (Ne.symm aq))
  rw [c] at e2
  refine ⟨fun _ => ⟨fun j => ?_, fun j => ?_⟩, fun h => absurd hr h⟩
  · rw [pvu_n e3 a j (Or.inl aq), pvu_n e2 a j (Or.inl ab)]
    by_cases d : j = Int32.toNatClampNeg (M.1 q 0)
    · subst d
      rw [if_pos rfl]
      exact pvu_s e1
    · rw [if_neg d]
      exact pvu_n e1 a j (Or.inr d)
  · rw [pvu_n e3 b j (Or.inl bq)]
    by_cases d : j = Int32.toNatClampNeg (M.1 q 0)
    · subst d
      rw [if_pos rfl]
      exact pvu_s e2
    · rw [if_neg d, pvu_n e2 b j (Or.inr d)]
      exact pvu_n e1 b j (Or.inl (Ne.symm ab))
theorem zAp_n {q a b cap : Nat} {n1 n2 : Int32} {M : pvM} (hr : ¬ (M.1 q 0).toInt < cap) : zAp q a b cap n1 n2 M M := ⟨fun h => absurd h hr, fun _ => ⟨fun _ => rfl, fun _ => rfl⟩⟩
theorem zC1_ap {q d b cap s : Nat} {i v w : Int32} {M Y X : pvM} (h : zC1 d s (Int32.toNatClampNeg i) M Y) (ap : zAp q d b cap v w Y X) (hq : Y.1 q 0 = i) (hi : i.toInt < cap) (hv : v = M.1 s (Int32.toNatClampNeg i)) : zC1 d s (Int32.toNatClampNeg i + 1) M X := by
  subst hq
  intro j hj
  rw [(ap.1 hi).1 j]
  by_cases c : j = Int32.toNatClampNeg (Y.1 q 0)
  · rw [if_pos c, c]
    exact hv
  · rw [if_neg c]
    exact h j (by omega)
theorem zC1_bp {q a d cap s : Nat} {i v w : Int32} {M Y X : pvM} (h : zC1 d s (Int32.toNatClampNeg i) M Y) (ap : zAp q a d cap v w Y X) (hq : Y.1 q 0 = i) (hi : i.toInt < cap) (hv : w = M.1 s (Int32.toNatClampNeg i)) : zC1 d s (Int32.toNatClampNeg i + 1) M X := by
  subst hq
  intro j hj
  rw [(ap.1 hi).2 j]
  by_cases c : j = Int32.toNatClampNeg (Y.1 q 0)
  · rw [if_pos c, c]
    exact hv
  · rw [if_neg c]
    exact h j (by omega)
theorem zC1_f {d s n n' : Nat} {M Y X : pvM} (h : zC1 d s n Y X) (hn : n' = n) (hs : ∀ i : Nat, Y.1 s i = M.1 s i) : zC1 d s n' M X := fun i hi => (h i (hn ▸ hi)).trans (hs i)
theorem zC1_g {d s n : Nat} {M X Z : pvM} (h : zC1 d s n M X) (hx : ∀ i : Nat, Z.1 d i = X.1 d i) : zC1 d s n M Z := fun i hi => (hx i).trans (h i hi)
def zU1 (cq ck d s n : Nat) (M X : pvM) : Prop := (M.1 cq ck = 0 ∧ ∀ i : Nat, X.1 d i = M.1 d i) ∨ (¬ M.1 cq ck = 0 ∧ zC1 d s n M X)
def zRk (a cap : Nat) (M X : pvM) : Prop := ∀ i : Nat, i < cap → X.1 a i = M.1 a i
theorem zRk_r (a cap : Nat) (M : pvM) : zRk a cap M M := fun _ _ => rfl
theorem zRk_fr {L : List (Nat × Nat × Nat)} {a cap : Nat} {M X : pvM} (hf : pvFr (pvfp L) M X) (h : ((List.range cap).all fun i => !pvfp L a i) = true) : zRk a cap M X := fun i hi => hf a i (by simpa using List.all_eq_true.mp h i (List.mem_range.mpr hi))
/-- the row of both sides is the same -/
def zRr (q a b cap : Nat) (M : pvM) : Prop := ∀ i : Nat, i < cap → (i : Int) < (M.1 q 0).toInt → M.1 a i = M.1 b i
theorem zRr_k {q a b cap : Nat} {M Y X : pvM} (h : zRr q a b cap M) (w : X.1 q 0 = M.1 q 0) (a1 : zRk a cap M Y) (b1 : zRk b cap M Y) (a2 : zRk a cap Y X) (b2 : zRk b cap Y X) : zRr q a b cap X := by
  intro i hi hn
  rw [w] at hn
  rw [a2 i hi, a1 i hi, b2 i hi, b1 i hi]
  exact h i hi hn
/-- a window goes to the end of the round, the round is cleared, or nothing is done -/
def zAd (q k a cap : Nat) (n1 : Int32) (r : Option pvV) (M X : pvM) : Prop := ∃ x : Int32, r = some (pvI x) ∧ ((x.toInt < 0 ∧ X.1 q k = M.1 q k ∧ ∀ i : Nat, i < cap → X.1 a i = M.1 a i) ∨ (x = 0 ∧ X.1 q k = 0) ∨ (0 < x.toInt ∧ (M.1 q k).toInt < cap ∧ X.1 q k = M.1 q k + 1 ∧ ∀ i : Nat, i < cap → X.1 a i = if i = Int32.toNatClampNeg (M.1 q k) then n1 else M.1 a i))
theorem zAd_9 {q a b cap : Nat} {c : Int32} {n1 n2 : Int32} {M X : pvM} (hc : c.toInt = cap) (hcap : cap ≤ 100) (hl : M.1 q 0 < c) (h0 : 0 ≤ (M.1 q 0).toInt) (ap : zAp q a b cap n1 n2 M X) (hx : X.1 q 0 = (if M.1 q 0 < c then M.1 q 0 + 1 else M.1 q 0)) : zAd q 0 a cap n1 (some (pvI (if M.1 q 0 < c then M.1 q 0 + 1 else M.1 q 0))) M X := by
  have u1 : (1 : Int32).toInt = 1 := by decide
  have hl2 := hl
  rw [zi_lt, hc] at hl2
  rw [if_pos hl] at hx ⊢
  exact ⟨_, rfl, Or.inr (Or.inr ⟨by rw [zadd _ _ (by rw [u1]; omega) (by rw [u1]; omega), u1]; omega, hl2, hx, fun i _ => (ap.1 hl2).1 i⟩)⟩
theorem zAd_10 {q k a cap : Nat} {n1 v : Int32} {M Y X : pvM} (aq : a ≠ q) (hcap : cap ≤ 100) (hr : 0 ≤ (M.1 q k).toInt ∧ (M.1 q k).toInt < cap) (e1 : Y = pvu M a (Int32.toNatClampNeg (M.1 q k)) n1) (e2 : X = pvu Y q k v) (hv : v = M.1 q k + 1) : zAd q k a cap n1 (some (pvI (X.1 q k))) M X := by
  have u1 : (1 : Int32).toInt = 1 := by decide
  have c : X.1 q k = M.1 q k + 1 := (pvu_s e2).trans hv
  refine ⟨_, rfl, Or.inr (Or.inr ⟨by rw [c, zadd _ _ (by rw [u1]; omega) (by rw [u1]; omega), u1]; omega, hr.2, c, fun i _ => ?_⟩)⟩
  rw [pvu_n e2 a i (Or.inl aq)]
  by_cases d : i = Int32.toNatClampNeg (M.1 q k)
  · subst d
    rw [if_pos rfl]
    exact pvu_s e1
  · rw [if_neg d]
    exact pvu_n e1 a i (Or.inr d)
theorem zAd_e {q k a cap : Nat} {n1 x y : Int32} {M X : pvM} (e : x = y) (h : zAd q k a cap n1 (some (pvI y)) M X) : zAd q k a cap n1 (some (pvI x)) M X := e ▸ h
theorem zRr_a {q p k a b cap : Nat} {n1 r r2 : Int32} {M Y X : pvM} (hcap : cap ≤ 100) (h : zRr q a b cap M) (h0 : 0 ≤ (M.1 q 0).toInt) (w : M.1 q 0 = M.1 p k) (er : r = r2) (g9 : zAd q 0 a cap n1 (some (pvI r)) M Y) (k9 : zRk b cap M Y) (kw : Y.1 p k = M.1 p k) (g10 : zAd p k b cap n1 (some (pvI r2)) Y X) (k10 : zRk a cap Y X) (kx : X.1 q 0 = Y.1 q 0) : zRr q a b cap X ∧ X.1 q 0 = X.1 p k := by
  subst er
  obtain ⟨x9, e9, g9⟩ := g9
  obtain ⟨x10, e10, g10⟩ := g10
  have q9 : r = x9 := Sum.inl.inj (Option.some.inj e9)
  have q10 : r = x10 := Sum.inl.inj (Option.some.inj e10)
  subst q9
  subst q10
  have u0 : (0 : Int32).toInt = 0 := by decide
  have u1 : (1 : Int32).toInt = 1 := by decide
  rcases g9 with ⟨a1, a2, a3⟩ | ⟨a1, a2⟩ | ⟨a1, a2, a3, a4⟩
  · rcases g10 with ⟨b1, b2, b3⟩ | ⟨b1, b2⟩ | ⟨b1, b2, b3, b4⟩
    · exact ⟨zRr_k h (kx.trans a2) a3 k9 k10 b3, by rw [kx, a2, b2, kw, w]⟩
    · rw [b1, u0] at a1; omega
    · omega
  · rcases g10 with ⟨b1, b2, b3⟩ | ⟨b1, b2⟩ | ⟨b1, b2, b3, b4⟩
    · rw [a1, u0] at b1; omega
    · refine ⟨fun i hi hn => ?_, by rw [kx, a2, b2]⟩
      rw [kx, a2, u0] at hn
      omega
    · rw [a1, u0] at b1; omega
  · rcases g10 with ⟨b1, b2, b3⟩ | ⟨b1, b2⟩ | ⟨b1, b2, b3, b4⟩
    · omega
    · rw [b1, u0] at a1; omega
    · refine ⟨fun i hi hn => ?_, by rw [kx, a3, b3, kw, w]⟩
      rw [kx, a3, zadd _ _ (by rw [u1]; omega) (by rw [u1]; omega), u1] at hn
      rw [k10 i hi, a4 i hi, b4 i hi, kw, ← w, k9 i hi]
      by_cases d : i = Int32.toNatClampNeg (M.1 q 0)
      · rw [if_pos d, if_pos d]
      · rw [if_neg d, if_neg d]
        have d2 : i ≠ (M.1 q 0).toInt.toNat := d
        exact h i hi (by omega)
/-- the image's row -/
theorem zRr_i {q q2 a b a2 b2 cap n : Nat} {M Y X : pvM} (h : zRr q a b cap M) (g9 : zC1 a2 a n M Y) (hn : n = Int32.toNatClampNeg (M.1 q 0)) (kb : zRk b cap M Y) (g10 : zC1 b2 b cap Y X) (k2 : zRk a2 cap Y X) (w : X.1 q2 0 = M.1 q 0) : zRr q2 a2 b2 cap X := by
  intro i hi hl
  rw [w] at hl
  have hn : n = (M.1 q 0).toInt.toNat := hn
  rw [k2 i hi, g9 i (by omega), g10 i hi, kb i hi]
  exact h i hi hl
theorem zRr_u {q q2 a b a2 b2 cap n cq ck dq dk : Nat} {M Y X : pvM} (h : zRr q a b cap M) (h2 : zRr q2 a2 b2 cap M) (ee : M.1 cq ck = M.1 dq dk) (g9 : zU1 cq ck a a2 n M Y) (hn : n = Int32.toNatClampNeg (M.1 q2 0)) (kb : zRk b cap M Y) (kb2 : zRk b2 cap M Y) (kd : Y.1 dq dk = M.1 dq dk) (g10 : zU1 dq dk b b2 cap Y X) (k2 : zRk a cap Y X) (w : M.1 cq ck = 0 → X.1 q 0 = M.1 q 0) (w2 : ¬ M.1 cq ck = 0 → X.1 q 0 = M.1 q2 0) : zRr q a b cap X := by
  rcases g9 with ⟨a1, a3⟩ | ⟨a1, a3⟩
  · rcases g10 with ⟨b1, b3⟩ | ⟨b1, b3⟩
    · exact zRr_k h (w a1) (fun i _ => a3 i) kb k2 (fun i _ => b3 i)
    · exact absurd (kd.trans (ee.symm.trans a1)) b1
  · rcases g10 with ⟨b1, b3⟩ | ⟨b1, b3⟩
    · exact absurd (ee.trans (kd.symm.trans b1)) a1
    · intro i hi hl
      rw [w2 a1] at hl
      have hn : n = (M.1 q2 0).toInt.toNat := hn
      rw [k2 i hi, a3 i (by omega), b3 i hi, kb2 i hi]
      exact h2 i hi hl
