/-! houses read, signs fed: both sides -/
def zKx (p j q k t : Nat) (M X : pvM) : Prop := X.1 p j = M.1 p j ∧ X.1 q k = M.1 q k ∧ ∀ i : Nat, X.1 t i = M.1 t i
theorem zKx_r (p j q k t : Nat) (M : pvM) : zKx p j q k t M M := ⟨rfl, rfl, fun _ => rfl⟩
theorem zKx_t {p j q k t : Nat} {M Y X : pvM} (h : zKx p j q k t M Y) (g : zKx p j q k t Y X) : zKx p j q k t M X := ⟨g.1.trans h.1, g.2.1.trans h.2.1, fun i => (g.2.2 i).trans (h.2.2 i)⟩
theorem zKx_fr {L : List (Nat × Nat × Nat)} {p j q k t : Nat} {M X : pvM} (hf : pvFr (pvfp L) M X) (hx : (!pvfp L p j && !pvfp L q k && !pvfq L t) = true) : zKx p j q k t M X := by
  simp only [Bool.and_eq_true, Bool.not_eq_true'] at hx
  exact ⟨hf _ _ hx.1.1, hf _ _ hx.1.2, fun i => hf _ _ (pvfq_p hx.2 i)⟩
/-- a sign is fed -/
def zFd (p j q k t : Nat) (n1 : Int32) (r : Option pvV) (M X : pvM) : Prop := ((n1 < 0 ∨ 127 < n1) ∧ r = some (pvI (-2)) ∧ zKx p j q k t M X) ∨ (¬ (n1 < 0 ∨ 127 < n1) ∧ 100 ≤ (M.1 q k).toInt ∧ r = some (pvI (-4)) ∧ zKx p j q k t M X) ∨ (¬ (n1 < 0 ∨ 127 < n1) ∧ (M.1 q k).toInt < 100 ∧ r = some (pvI (M.1 q k + 1)) ∧ X.1 p j = M.1 p j ∧ X.1 q k = M.1 q k + 1 ∧ ∀ i : Nat, X.1 t i = if i = Int32.toNatClampNeg (M.1 q k) then n1 else M.1 t i)
theorem zFd_u {p j q k t : Nat} {n1 : Int32} {M A X : pvM} (hn : ¬ (n1 < 0 ∨ 127 < n1)) (hl : (M.1 q k).toInt < 100) (hpt : p ≠ t) (hqt : q ≠ t) (hpq : p ≠ q ∨ j ≠ k) (e1 : A = pvu M t (Int32.toNatClampNeg (M.1 q k)) n1) (e2 : X = pvu A q k (A.1 q k + 1)) : zFd p j q k t n1 (some (pvI (X.1 q k))) M X := by
  have a : A.1 q k = M.1 q k := pvu_n e1 q k (Or.inl hqt)
  have x : X.1 q k = M.1 q k + 1 := by rw [pvu_s e2, a]
  refine Or.inr (Or.inr ⟨hn, hl, by rw [x], (pvu_n e2 p j hpq).trans (pvu_n e1 p j (Or.inl hpt)), x, fun i => ?_⟩)
  rw [pvu_n e2 t i (Or.inl (fun z => hqt z.symm))]
  by_cases c : i = Int32.toNatClampNeg (M.1 q k)
  · rw [if_pos c, c]; exact pvu_s e1
  · rw [if_neg c]; exact pvu_n e1 t i (Or.inr c)
/-- what both sides say alike of texts -/
def zPH (M : pvM) : Prop := M.1 0 1 = M.1 124 14 ∧ M.1 6 1 = M.1 124 16 ∧ ∀ i : Nat, (i : Int) < (M.1 6 1).toInt → M.1 7 i = M.1 132 i
theorem zPH_k {M Y X : pvM} (h : zPH M) (a : zKx 0 1 6 1 7 M Y) (b : zKx 124 14 124 16 132 M Y) (a2 : zKx 0 1 6 1 7 Y X) (b2 : zKx 124 14 124 16 132 Y X) : zPH X := by
  have a := zKx_t a a2
  have b := zKx_t b b2
  exact ⟨a.1.trans (h.1.trans b.1.symm), a.2.1.trans (h.2.1.trans b.2.1.symm), fun i hi => (a.2.2 i).trans ((h.2.2 i (by rw [a.2.1] at hi; exact hi)).trans (b.2.2 i).symm)⟩
theorem zPH_f {n1 v9 v10 : Int32} {M Y X : pvM} (h : zPH M) (hr : 0 ≤ (M.1 6 1).toInt) (g9 : zFd 0 1 6 1 7 n1 (some (pvI v9)) M Y) (b : zKx 124 14 124 16 132 M Y) (g10 : zFd 124 14 124 16 132 n1 (some (pvI v10)) Y X) (a : zKx 0 1 6 1 7 Y X) : v9 = v10 ∧ zPH X := by
  have q16 : Y.1 124 16 = M.1 6 1 := b.2.1.trans h.2.1.symm
  have inj : ∀ {x y : Int32}, (some (pvI x) : Option pvV) = some (pvI y) → x = y := fun e => Sum.inl.inj (Option.some.inj e)
  rcases g9 with ⟨c, r, k⟩ | ⟨c, c2, r, k⟩ | ⟨c, c2, r, k1, k2, k3⟩
  · rcases g10 with ⟨d, s, l⟩ | ⟨d, _⟩ | ⟨d, _⟩
    · exact ⟨(inj r).trans (inj s).symm, zPH_k h k b a l⟩
    · exact absurd c d
    · exact absurd c d
  · rcases g10 with ⟨d, _⟩ | ⟨d, d2, s, l⟩ | ⟨d, d2, _⟩
    · exact absurd d c
    · exact ⟨(inj r).trans (inj s).symm, zPH_k h k b a l⟩
    · rw [q16] at d2; omega
  · rcases g10 with ⟨d, _⟩ | ⟨d, d2, _⟩ | ⟨d, d2, s, l1, l2, l3⟩
    · exact absurd d c
    · rw [q16] at d2; omega
    · refine ⟨by rw [inj r, inj s, q16], a.1.trans (k1.trans (h.1.trans (b.1.symm.trans l1.symm))), by rw [a.2.1, k2, l2, q16], fun i hi => ?_⟩
      have u := zadd_1 (M.1 6 1) (by omega)
      rw [a.2.1, k2, u] at hi
      rw [a.2.2, k3, l3, q16]
      by_cases e : i = Int32.toNatClampNeg (M.1 6 1)
      · rw [if_pos e, if_pos e]
      · rw [if_neg e, if_neg e, b.2.2]
        have t := ztn _ hr
        exact h.2.2 i (by omega)
/-- a HOUSE is read -/
def zH9 (r : Option pvV) (M X : pvM) : Prop := (6 ≤ (M.1 0 1).toInt ∧ r = some (pvI (-4)) ∧ X = M) ∨ ((M.1 0 1).toInt < 6 ∧ ∃ (b : Bool) (S : List (Nat × Int32 × List Int32)) (q : Nat), zTX (zs9 M) 9 0 b q S ∧ r = some (pvI (if b = true then M.1 0 1 else (-10) - nI q)) ∧ X.1 6 1 = 0 ∧ X.1 0 1 = (if b = true then M.1 0 1 + 1 else M.1 0 1) ∧ X.1 8 8 = (if b = true then nI (15 + Int32.toNatClampNeg (M.1 0 1)) else M.1 8 8) ∧ (∀ a c : Nat, 15 ≤ a → a < 51 → ¬ zin (15 + Int32.toNatClampNeg (M.1 0 1)) a → X.1 a c = M.1 a c) ∧ (b = true → zHC X (15 + Int32.toNatClampNeg (M.1 0 1)) S))
def zH10 (r : Option pvV) (M X : pvM) : Prop := (6 ≤ (M.1 124 14).toInt ∧ r = some (pvI (-4)) ∧ X = M) ∨ ((M.1 124 14).toInt < 6 ∧ ∃ (b : Bool) (S : List (Nat × Int32 × List Int32)) (q : Nat), zTX (zs10 M) 9 0 b q S ∧ r = some (pvI (if b = true then M.1 124 14 else (-10) - nI q)) ∧ X.1 124 16 = 0 ∧ X.1 124 14 = (if b = true then M.1 124 14 + 1 else M.1 124 14) ∧ X.1 124 15 = (if b = true then M.1 124 14 else M.1 124 15) ∧ zQf (Int32.toNatClampNeg (M.1 124 14)) M X ∧ (b = true → zHR X (Int32.toNatClampNeg (M.1 124 14)) S))
theorem zPH_h {v9 v10 : Int32} {M Y X : pvM} (h : zPH M) (g9 : zH9 (some (pvI v9)) M Y) (b : zKx 124 14 124 16 132 M Y) (g10 : zH10 (some (pvI v10)) Y X) (a : zKx 0 1 6 1 7 Y X) : v9 = v10 ∧ zPH X := by
  have q14 : Y.1 124 14 = M.1 0 1 := b.1.trans h.1.symm
  have q16 : Y.1 124 16 = M.1 6 1 := b.2.1.trans h.2.1.symm
  have inj : ∀ {x y : Int32}, (some (pvI x) : Option pvV) = some (pvI y) → x = y := fun e => Sum.inl.inj (Option.some.inj e)
  have st : zs10 Y = zs9 M := by
    funext p
    unfold zs10 zs9
    rw [q16]
    by_cases c : (p : Int) < (M.1 6 1).toInt
    · rw [if_pos c, if_pos c, b.2.2, h.2.2 p c]
    · rw [if_neg c, if_neg c]
  rcases g9 with ⟨c, r, k⟩ | ⟨c, t, S, q, k1, k2, k3, k4, k5⟩
  · rcases g10 with ⟨d, s, l⟩ | ⟨d, _⟩
    · subst k l
      exact ⟨(inj r).trans (inj s).symm, h⟩
    · rw [q14] at d; omega
  · rcases g10 with ⟨d, _⟩ | ⟨d, t', S', q', l1, l2, l3, l4, l5⟩
    · rw [q14] at d; omega
    · rw [st] at l1
      obtain ⟨rfl, rfl, _⟩ := zTX_d 9 k1 l1
      rw [q14] at l2 l4
      have z0 : (0 : Int32).toInt = 0 := by decide
      refine ⟨(inj k2).trans (inj l2).symm, by rw [a.1, k4, l4], by rw [a.2.1, k3, l3], fun i hi => ?_⟩
      rw [a.2.1, k3, z0] at hi
      omega
theorem zH9_n {q4 : Nat} {x v : Int32} {M Y F : pvM} (hok : pvOk M) (hl : (M.1 0 1).toInt < 6) (eq : q4 = pvbs 1 + Int32.toNatClampNeg (M.1 0 1)) (d : zTI q4 (some (pvI x)) M Y) (hf1 : Y.1 0 1 = M.1 0 1) (hf8 : Y.1 8 8 = M.1 8 8) (e1 : F = pvu Y 6 1 0) (hx : x = 0) (hv : v = (-10) - F.1 6 2) : zH9 (some (pvI v)) M F := by
  have e15 : q4 = 15 + Int32.toNatClampNeg (M.1 0 1) := eq
  have rr := pvok_r hok 0 1 (lo := 0) (hi := 6) rfl
  have tt := ztn _ rr.1
  obtain ⟨d1, d2, b, S, e, d3, d4⟩ := d
  have e : x = bif b then 1 else 0 := Sum.inl.inj (Option.some.inj e)
  have hb : b = false := by
    cases b
    · rfl
    · rw [hx] at e; exact absurd e (by decide)
  subst hb
  have e2 : F.1 6 2 = nI (zP9 Y) := by
    rw [pvu_n e1 6 2 (Or.inr (by decide)), zi_eq, nI_toInt (by have := zP9_i d1; have := d1.1; omega), zP9_i d1]
  refine Or.inr ⟨hl, false, S, zP9 Y, d3, by rw [if_neg (by decide), hv, e2], pvu_s e1, by rw [if_neg (by decide), pvu_n e1 0 1 (Or.inl (by decide)), hf1], by rw [if_neg (by decide), pvu_n e1 8 8 (Or.inl (by decide)), hf8], fun a c h1 h2 h3 => ?_, fun z => absurd z (by decide)⟩
  rw [pvu_n e1 a c (Or.inl (by omega))]
  exact d2.2.2 a c h1 h2 (by rw [e15]; exact h3)
theorem zH9_y {q4 q5 : Nat} {x v : Int32} {L : List (Nat × Nat × Nat)} {M Y F G H X : pvM} (hok : pvOk M) (hl : (M.1 0 1).toInt < 6) (eq : q4 = pvbs 1 + Int32.toNatClampNeg (M.1 0 1)) (d : zTI q4 (some (pvI x)) M Y) (hf1 : Y.1 0 1 = M.1 0 1) (e1 : F = pvu Y 6 1 0) (hx : ¬ x = 0) (hv : v = F.1 0 1) (e2 : G = pvu F 0 1 (F.1 0 1 + 1)) (eq2 : q5 = pvbs 1 + Int32.toNatClampNeg (F.1 0 1)) (e3 : H = pvu G 8 8 (nI q5)) (hf : pvFr (pvfp L) H X) (h1 : pvfp L 0 1 = false) (h8 : pvfp L 8 8 = false) (h6 : pvfp L 6 1 = false) (hh : (L.all fun a => Nat.beq a.1 0 && (Nat.ble a.2.1 14 || Nat.ble 51 a.2.1)) = true) : zH9 (some (pvI v)) M X := by
  have e15 : q4 = 15 + Int32.toNatClampNeg (M.1 0 1) := eq
  have rr := pvok_r hok 0 1 (lo := 0) (hi := 6) rfl
  have tt := ztn _ rr.1
  obtain ⟨d1, d2, b, S, e, d3, d4⟩ := d
  have e : x = bif b then 1 else 0 := Sum.inl.inj (Option.some.inj e)
  have hb : b = true := by
    cases b
    · exact absurd e hx
    · rfl
  subst hb
  have fo : ∀ a c : Nat, 15 ≤ a → a < 51 → X.1 a c = H.1 a c := fun a c u v => hf a c (by
    unfold pvfp
    rw [List.any_eq_false]
    intro y hy hb
    rw [List.all_eq_true] at hh
    have k1 := hh y hy
    rw [Bool.and_eq_true, Bool.or_eq_true] at k1
    unfold pvfa at hb
    rw [Bool.and_eq_true, k1.1, cond_true] at hb
    have k2 := Nat.eq_of_beq_eq_true hb.1
    rcases k1.2 with k3 | k3
    · have := Nat.le_of_ble_eq_true k3; omega
    · have := Nat.le_of_ble_eq_true k3; omega)
  have ff : F.1 0 1 = M.1 0 1 := (pvu_n e1 0 1 (Or.inl (by decide))).trans hf1
  have oo : ∀ a c : Nat, 15 ≤ a → a < 51 → X.1 a c = Y.1 a c := fun a c u v => (fo a c u v).trans ((pvu_n e3 a c (Or.inl (by omega))).trans ((pvu_n e2 a c (Or.inl (by omega))).trans (pvu_n e1 a c (Or.inl (by omega)))))
  refine Or.inr ⟨hl, true, S, zP9 Y, d3, by rw [if_pos rfl, hv, ff], ?_, ?_, ?_, fun a c u v w => ?_, fun _ => ?_⟩
  · rw [hf 6 1 h6, pvu_n e3 6 1 (Or.inl (by decide)), pvu_n e2 6 1 (Or.inl (by decide))]; exact pvu_s e1
  · rw [if_pos rfl, hf 0 1 h1, pvu_n e3 0 1 (Or.inl (by decide)), pvu_s e2, ff]
  · rw [if_pos rfl, hf 8 8 h8, pvu_s e3, eq2, ff]; rfl
  · exact (oo a c u v).trans (d2.2.2 a c u v (by rw [e15]; exact w))
  · rw [← e15]
    refine zHC_k (d4 rfl) (fun a c z => oo a c ?_ ?_)
    · rcases z with z | z | z | z <;> omega
    · rcases z with z | z | z | z <;> omega
theorem zQf_u {f q k : Nat} {v : Int32} {M X : pvM} (e : X = pvu M q k v) (h : q < 133 ∨ 138 < q) : zQf f M X := ⟨fun i _ => ⟨pvu_n e _ _ (Or.inl (by omega)), pvu_n e _ _ (Or.inl (by omega)), pvu_n e _ _ (Or.inl (by omega)), pvu_n e _ _ (Or.inl (by omega))⟩, fun i _ => pvu_n e _ _ (Or.inl (by omega)), fun i _ => pvu_n e _ _ (Or.inl (by omega))⟩
theorem zHR_u {f q k : Nat} {v : Int32} {M X : pvM} {S : List (Nat × Int32 × List Int32)} (h : zHR M f S) (e : X = pvu M q k v) (hq : q < 133 ∨ 138 < q) : zHR X f S := ⟨by rw [pvu_n e 133 f (Or.inl (by omega))]; exact h.1, zHb_k h.2 (fun i _ => ⟨pvu_n e _ _ (Or.inl (by omega)), pvu_n e _ _ (Or.inl (by omega)), pvu_n e _ _ (Or.inl (by omega)), pvu_n e _ _ (Or.inl (by omega))⟩) (fun i j x _ _ _ => pvu_n e _ _ (Or.inl (by omega)))⟩
theorem zH10_n {x v : Int32} {M Y F : pvM} (hoy : pvOk Y) (hl : (M.1 124 14).toInt < 6) (d : zQX (Int32.toNatClampNeg (M.1 124 14)) (some (pvI x)) M Y) (h14 : Y.1 124 14 = M.1 124 14) (h15 : Y.1 124 15 = M.1 124 15) (e1 : F = pvu Y 124 16 0) (hx : x = 0) (hv : v = (-10) - F.1 124 17) : zH10 (some (pvI v)) M F := by
  obtain ⟨d1, b, S, e, d2, d3⟩ := d
  have e : x = bif b then 1 else 0 := Sum.inl.inj (Option.some.inj e)
  have hb : b = false := by
    cases b
    · rfl
    · rw [hx] at e; exact absurd e (by decide)
  subst hb
  have r := pvok_r hoy 124 17 (lo := 0) (hi := 100) rfl
  have t := ztn _ r.1
  have e2 : F.1 124 17 = nI (zP10 Y) := by
    rw [pvu_n e1 124 17 (Or.inr (by decide)), zi_eq]
    unfold zP10
    rw [nI_toInt (by omega), t]
  exact Or.inr ⟨hl, false, S, zP10 Y, d2, by rw [if_neg (by decide), hv, e2], pvu_s e1, by rw [if_neg (by decide), pvu_n e1 124 14 (Or.inr (by decide)), h14], by rw [if_neg (by decide), pvu_n e1 124 15 (Or.inr (by decide)), h15], zQf_t d1 (zQf_u e1 (Or.inl (by decide))), fun z => absurd z (by decide)⟩
theorem zH10_y {x v : Int32} {M Y F G H : pvM} (hl : (M.1 124 14).toInt < 6) (d : zQX (Int32.toNatClampNeg (M.1 124 14)) (some (pvI x)) M Y) (h14 : Y.1 124 14 = M.1 124 14) (e1 : F = pvu Y 124 16 0) (hx : ¬ x = 0) (e2 : G = pvu F 124 15 (F.1 124 14)) (e3 : H = pvu G 124 14 (G.1 124 14 + 1)) (hv : v = H.1 124 15) : zH10 (some (pvI v)) M H := by
  obtain ⟨d1, b, S, e, d2, d3⟩ := d
  have e : x = bif b then 1 else 0 := Sum.inl.inj (Option.some.inj e)
  have hb : b = true := by
    cases b
    · exact absurd e hx
    · rfl
  subst hb
  have f14 : F.1 124 14 = M.1 124 14 := (pvu_n e1 124 14 (Or.inr (by decide))).trans h14
  have x15 : H.1 124 15 = M.1 124 14 := by rw [pvu_n e3 124 15 (Or.inr (by decide)), pvu_s e2, f14]
  refine Or.inr ⟨hl, true, S, zP10 Y, d2, by rw [if_pos rfl, hv, x15], ?_, ?_, by rw [if_pos rfl]; exact x15, zQf_t d1 (zQf_t (zQf_u e1 (Or.inl (by decide))) (zQf_t (zQf_u e2 (Or.inl (by decide))) (zQf_u e3 (Or.inl (by decide))))), fun _ => zHR_u (zHR_u (zHR_u (d3 rfl) e1 (Or.inl (by decide))) e2 (Or.inl (by decide))) e3 (Or.inl (by decide))⟩
  · rw [pvu_n e3 124 16 (Or.inr (by decide)), pvu_n e2 124 16 (Or.inr (by decide))]; exact pvu_s e1
  · rw [if_pos rfl, pvu_s e3, pvu_n e2 124 14 (Or.inr (by decide)), f14]
