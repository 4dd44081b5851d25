/-! houses read, signs fed: both sides -/
def zKx (p j q k t : Nat) (M X : pvM) : Prop := X.1 p j = M.1 p j ∧ X.1 q k = M.1 q k ∧ ∀ i : Nat, X.1 t i = M.1 t i
theorem zKx_r (p j q k t : Nat) (M : pvM) : zKx p j q k t M M := ⟨rfl, rfl, fun _ => rfl⟩
theorem zKx_t {p j q k t : Nat} {M Y X : pvM} (h : zKx p j q k t M Y) (g : zKx p j q k t Y X) : zKx p j q k t M X := ⟨g.1.trans h.1, g.2.1.trans h.2.1, fun i => (g.2.2 i).trans (h.2.2 i)⟩
theorem zKx_fr {L : List (Nat × Nat × Nat)} {p j q k t : Nat} {M X : pvM} (hf : pvFr (pvfp L) M X) (hx : (!pvfp L p j && !pvfp L q k && !pvfq L t) = true) : zKx p j q k t M X := by
  simp only [Bool.and_eq_true, Bool.not_eq_true'] at hx
  exact ⟨hf _ _ hx.1.1, hf _ _ hx.1.2, fun i => hf _ _ (pvfq_p hx.2 i)⟩
/-- a sign is fed -/
def zFd (p j q k t : Nat) (n1 : Int32) (r : Option pvV) (M X : pvM) : Prop := ((n1 < 0 ∨ 127 < n1) ∧ r = some (pvI (-2)) ∧ zKx p j q k t M X) ∨ (¬ (n1 < 0 ∨ 127 < n1) ∧ 100 ≤ (M.1 q k).toInt ∧ r = some (pvI (-4)) ∧ zKx p j q k t M X) ∨ (¬ (n1 < 0 ∨ 127 < n1) ∧ (M.1 q k).toInt < 100 ∧ r = some (pvI (M.1 q k + 1)) ∧ X.1 p j = M.1 p j ∧ X.1 q k = M.1 q k + 1 ∧ ∀ i : Nat, X.1 t i = if i = Int32.toNatClampNeg (M.1 q k) then n1 else M.1 t i)
theorem zFd_u {p j q k t : Nat} {n1 : Int32} {M A X : pvM} (hn : ¬ (n1 < 0 ∨ 127 < n1)) (hl : (M.1 q k).toInt < 100) (hpt : p ≠ t) (hqt : q ≠ t) (hpq : p ≠ q ∨ j ≠ k) (e1 : A = pvu M t (Int32.toNatClampNeg (M.1 q k)) n1) (e2 : X = pvu A q k (A.1 q k + 1)) : zFd p j q k t n1 (some (pvI (X.1 q k))) M X := by
  have a : A.1 q k = M.1 q k := pvu_n e1 q k (Or.inl hqt)
  have x : X.1 q k = M.1 q k + 1 := by rw [pvu_s e2, a]
  refine Or.inr (Or.inr ⟨hn, hl, by rw [x], (pvu_n e2 p j hpq).trans (pvu_n e1 p j (Or.inl hpt)), x, fun i => ?_⟩)
  rw [pvu_n e2 t i (Or.inl (fun z => hqt z.symm))]
  by_cases c : i = Int32.toNatClampNeg (M.1 q k)
  · rw [if_pos c, c]; exact pvu_s e1
  · rw [if_neg c]; exact pvu_n e1 t i (Or.inr c)
/-- what both sides say alike of texts -/
def zPH (M : pvM) : Prop := M.1 0 1 = M.1 124 14 ∧ M.1 6 1 = M.1 124 16 ∧ ∀ i : Nat, (i : Int) < (M.1 6 1).toInt → M.1 7 i = M.1 132 i
theorem zPH_k {M Y X : pvM} (h : zPH M) (a : zKx 0 1 6 1 7 M Y) (b : zKx 124 14 124 16 132 M Y) (a2 : zKx 0 1 6 1 7 Y X) (b2 : zKx 124 14 124 16 132 Y X) : zPH X := by
  have a := zKx_t a a2
  have b := zKx_t b b2
  exact ⟨a.1.trans (h.1.trans b.1.symm), a.2.1.trans (h.2.1.trans b.2.1.symm), fun i hi => (a.2.2 i).trans ((h.2.2 i (by rw [a.2.1] at hi; exact hi)).trans (b.2.2 i).symm)⟩
theorem zPH_f {n1 v9 v10 : Int32} {M Y X : pvM} (h : zPH M) (hr : 0 ≤ (M.1 6 1).toInt) (g9 : zFd 0 1 6 1 7 n1 (some (pvI v9)) M Y) (b : zKx 124 14 124 16 132 M Y) (g10 : zFd 124 14 124 16 132 n1 (some (pvI v10)) Y X) (a : zKx 0 1 6 1 7 Y X) : v9 = v10 ∧ zPH X := by
  have q16 : Y.1 124 16 = M.1 6 1 := b.2.1.trans h.2.1.symm
  have inj : ∀ {x y : Int32}, (some (pvI x) : Option pvV) = some (pvI y) → x = y := fun e => Sum.inl.inj (Option.some.inj e)
  rcases g9 with ⟨c, r, k⟩ | ⟨c, c2, r, k⟩ | ⟨c, c2, r, k1, k2, k3⟩
  · rcases g10 with ⟨d, s, l⟩ | ⟨d, _⟩ | ⟨d, _⟩
    · exact ⟨(inj r).trans (inj s).symm, zPH_k h k b a l⟩
    · exact absurd c d
    · exact absurd c d
  · rcases g10 with ⟨d, _⟩ | ⟨d, d2, s, l⟩ | ⟨d, d2, _⟩
    · exact absurd d c
    · exact ⟨(inj r).trans (inj s).symm, zPH_k h k b a l⟩
    · rw [q16] at d2; omega
  · rcases g10 with ⟨d, _⟩ | ⟨d, d2, _⟩ | ⟨d, d2, s, l1, l2, l3⟩
    · exact absurd d c
    · rw [q16] at d2; omega
    · refine ⟨by rw [inj r, inj s, q16], a.1.trans (k1.trans (h.1.trans (b.1.symm.trans l1.symm))), by rw [a.2.1, k2, l2, q16], fun i hi => ?_⟩
      have u := zadd_1 (M.1 6 1) (by omega)
      rw [a.2.1, k2, u] at hi
      rw [a.2.2, k3, l3, q16]
      by_cases e : i = Int32.toNatClampNeg (M.1 6 1)
      · rw [if_pos e, if_pos e]
      · rw [if_neg e, if_neg e, b.2.2]
        have t := ztn _ hr
        exact h.2.2 i (by omega)
/-- a HOUSE is read -/
def zH9 (r : Option pvV) (M X : pvM) : Prop := (6 ≤ (M.1 0 1).toInt ∧ r = some (pvI (-4)) ∧ X = M) ∨ ((M.1 0 1).toInt < 6 ∧ ∃ (b : Bool) (S : List (Nat × Int32 × List Int32)) (q : Nat), zTX (zs9 M) 9 0 b q S ∧ r = some (pvI (if b = true then M.1 0 1 else (-10) - nI q)) ∧ X.1 6 1 = 0 ∧ X.1 0 1 = (if b = true then M.1 0 1 + 1 else M.1 0 1) ∧ X.1 8 8 = (if b = true then nI (15 + Int32.toNatClampNeg (M.1 0 1)) else M.1 8 8) ∧ (∀ a c : Nat, 15 ≤ a → a < 51 → ¬ zin (15 + Int32.toNatClampNeg (M.1 0 1)) a → X.1 a c = M.1 a c) ∧ (b = true → zHC X (15 + Int32.toNatClampNeg (M.1 0 1)) S))
def zH10 (r : Option pvV) (M X : pvM) : Prop := (6 ≤ (M.1 124 14).toInt ∧ r = some (pvI (-4)) ∧ X = M) ∨ ((M.1 124 14).toInt < 6 ∧ ∃ (b : Bool) (S : List (Nat × Int32 × List Int32)) (q : Nat), zTX (zs10 M) 9 0 b q S ∧ r = some (pvI (if b = true then M.1 124 14 else (-10) - nI q)) ∧ X.1 124 16 = 0 ∧ X.1 124 14 = (if b = true then M.1 124 14 + 1 else M.1 124 14) ∧ X.1 124 15 = (if b = true then M.1 124 14 else M.1 124 15) ∧ zQf (Int32.toNatClampNeg (M.1 124 14)) M X ∧ (b = true → zHR X (Int32.toNatClampNeg (M.1 124 14)) S))
theorem zPH_h {v9 v10 : Int32} {M Y X : pvM} (h : zPH M) (g9 : zH9 (some (pvI v9)) M Y) (b : zKx 124 14 124 16 132 M Y) (g10 : zH10 (some (pvI v10)) Y X) (a : zKx 0 1 6 1 7 Y X) : v9 = v10 ∧ zPH X := by
  have q14 : Y.1 124 14 = M.1 0 1 := b.1.trans h.1.symm
  have q16 : Y.1 124 16 = M.1 6 1 := b.2.1.trans h.2.1.symm
  have inj : ∀ {x y : Int32}, (some (pvI x) : Option pvV) = some (pvI y) → x = y := fun e => Sum.inl.inj (Option.some.inj e)
  have st : zs10 Y = zs9 M := by
    funext p
    unfold zs10 zs9
    rw [q16]
    by_cases c : (p : Int) < (M.1 6 1).toInt
    · rw [if_pos c, if_pos c, b.2.2, h.2.2 p c]
    · rw [if_neg c, if_neg c]
  rcases g9 with ⟨c, r, k⟩ | ⟨c, t, S, q, k1, k2, k3, k4, k5⟩
  · rcases g10 with ⟨d, s, l⟩ | ⟨d, _⟩
    · subst k l
      exact ⟨(inj r).trans (inj s).symm, h⟩
    · rw [q14] at d; omega
  · rcases g10 with ⟨d, _⟩ | ⟨d, t', S', q', l1, l2, l3, l4, l5⟩
    · rw [q14] at d; omega
    · rw [st] at l1
      obtain ⟨rfl, rfl, _⟩ := zTX_d 9 k1 l1
      rw [q14] at l2 l4
      have z0 : (0 : Int32).toInt = 0 := by decide
      refine ⟨(inj k2).trans (inj l2).symm, by rw [a.1, k4, l4], by rw [a.2.1, k3, l3], fun i hi => ?_⟩
      rw [a.2.1, k3, z0] at hi
      omega
theorem zH9_n {q4 : Nat} {x v : Int32} {M Y F : pvM} (hok : pvOk M) (hl : (M.1 0 1).toInt < 6) (eq : q4 = pvbs 1 + Int32.toNatClampNeg (M.1 0 1)) (d : zTI q4 (some (pvI x)) M Y) (hf1 : Y.1 0 1 = M.1 0 1) (hf8 : Y.1 8 8 = M.1 8 8) (e1 : F = pvu Y 6 1 0) (hx : x = 0) (hv : v = (-10) - F.1 6 2) : zH9 (some (pvI v)) M F := by
  have e15 : q4 = 15 + Int32.toNatClampNeg (M.1 0 1) := eq
  have rr := pvok_r hok 0 1 (lo := 0) (hi := 6) rfl
  have tt := ztn _ rr.1
  obtain ⟨d1, d2, b, S, e, d3, d4⟩ := d
  have e : x = bif b then 1 else 0 := Sum.inl.inj (Option.some.inj e)
  have hb : b = false := by
    cases b
    · rfl
    · rw [hx] at e; exact absurd e (by decide)
  subst hb
  have e2 : F.1 6 2 = nI (zP9 Y) := by
    rw [pvu_n e1 6 2 (Or.inr (by decide)), zi_eq, nI_toInt (by have := zP9_i d1; have := d1.1; omega), zP9_i d1]
  refine Or.inr ⟨hl, false, S, zP9 Y, d3, by rw [if_neg (by decide), hv, e2], pvu_s e1, by rw [if_neg (by decide), pvu_n e1 0 1 (Or.inl (by decide)), hf1], by rw [if_neg (by decide), pvu_n e1 8 8 (Or.inl (by decide)), hf8], fun a c h1 h2 h3 => ?_, fun z => absurd z (by decide)⟩
  rw [pvu_n e1 a c (Or.inl (by omega))]
  exact d2.2.2 a c h1 h2 (by rw [e15]; exact h3)
theorem zH9_y {q4 q5 : Nat} {x v : Int32} {L : List (Nat × Nat × Nat)} {M Y F G H X : pvM} (hok : pvOk M) (hl : (M.1 0 1).toInt < 6) (eq : q4 = pvbs 1 + Int32.toNatClampNeg (M.1 0 1)) (d : zTI q4 (some (pvI x)) M Y) (hf1 : Y.1 0 1 = M.1 0 1) (e1 : F = pvu Y 6 1 0) (hx : ¬ x = 0) (hv : v = F.1 0 1) (e2 : G = pvu F 0 1 (F.1 0 1 + 1)) (eq2 : q5 = pvbs 1 + Int32.toNatClampNeg (F.1 0 1)) (e3 : H = pvu G 8 8 (nI q5)) (hf : pvFr (pvfp L) H X) (h1 : pvfp L 0 1 = false) (h8 : pvfp L 8 8 = false) (h6 : pvfp L 6 1 = false) (hh : (L.all fun a => Nat.beq a.1 0 && (Nat.ble a.2.1 14 || Nat.ble 51 a.2.1)) = true) : zH9 (some (pvI v)) M X := by
  have e15 : q4 = 15 + Int32.toNatClampNeg (M.1 0 1) := eq
  have rr := pvok_r hok 0 1 (lo := 0) (hi := 6) rfl
  have tt := ztn _ rr.1
  obtain ⟨d1, d2, b, S, e, d3, d4⟩ := d
  have e : x = bif b then 1 else 0 := Sum.inl.inj (Option.some.inj e)
  have hb : b = true := by
    cases b
    · exact absurd e hx
    · rfl
  subst hb
  have fo : ∀ a c : Nat, 15 ≤ a → a < 51 → X.1 a c = H.1 a c := fun a c u v => hf a c (by
    unfold pvfp
    rw [List.any_eq_false]
    intro y hy hb
    rw [List.all_eq_true] at hh
    have k1 := hh y hy
    rw [Bool.and_eq_true, Bool.or_eq_true] at k1
    unfold pvfa at hb
    rw [Bool.and_eq_true, k1.1, cond_true] at hb
    have k2 := Nat.eq_of_beq_eq_true hb.1
    rcases k1.2 with k3 | k3
    · have := Nat.le_of_ble_eq_true k3; omega
    · have := Nat.le_of_ble_eq_true k3; omega)
  have ff : F.1 0 1 = M.1 0 1 := (pvu_n e1 0 1 (Or.inl (by decide))).trans hf1
  have oo : ∀ a c : Nat, 15 ≤ a → a < 51 → X.1 a c = Y.1 a c := fun a c u v => (fo a c u v).trans ((pvu_n e3 a c (Or.inl (by omega))).trans ((pvu_n e2 a c (Or.inl (by omega))).trans (pvu_n e1 a c (Or.inl (by omega)))))
  refine Or.inr ⟨hl, true, S, zP9 Y, d3, by rw [if_pos rfl, hv, ff], ?_, ?_, ?_, fun a c u v w => ?_, fun _ => ?_⟩
  · rw [hf 6 1 h6, pvu_n e3 6 1 (Or.inl (by decide)), pvu_n e2 6 1 (Or.inl (by decide))]; exact pvu_s e1
  · rw [if_pos rfl, hf 0 1 h1, pvu_n e3 0 1 (Or.inl (by decide)), pvu_s e2, ff]
  · rw [if_pos rfl, hf 8 8 h8, pvu_s e3, eq2, ff]; rfl
  · exact (oo a c u v).trans (d2.2.2 a c u v (by rw [e15]; exact w))
  · rw [← e15]
    refine zHC_k (d4 rfl) (fun a c z => oo a c ?_ ?_)
    · rcases z with z | z | z | z <;> omega
    · rcases z with z | z | z | z <;> omega
theorem zQf_u {f q k : Nat} {v : Int32} {M X : pvM} (e : X = pvu M q k v) (h : q < 133 ∨ 138 < q) : zQf f M X := ⟨fun i _ => ⟨pvu_n e _ _ (Or.inl (by omega)), pvu_n e _ _ (Or.inl (by omega)), pvu_n e _ _ (Or.inl (by omega)), pvu_n e _ _ (Or.inl (by omega))⟩, fun i _ => pvu_n e _ _ (Or.inl (by omega)), fun i _ => pvu_n e _ _ (Or.inl (by omega))⟩
theorem zHR_u {f q k : Nat} {v : Int32} {M X : pvM} {S : List (Nat × Int32 × List Int32)} (h : zHR M f S) (e : X = pvu M q k v) (hq : q < 133 ∨ 138 < q) : zHR X f S := ⟨by rw [pvu_n e 133 f (Or.inl (by omega))]; exact h.1, zHb_k h.2 (fun i _ => ⟨pvu_n e _ _ (Or.inl (by omega)), pvu_n e _ _ (Or.inl (by omega)), pvu_n e _ _ (Or.inl (by omega)), pvu_n e _ _ (Or.inl (by omega))⟩) (fun i j x _ _ _ => pvu_n e _ _ (Or.inl (by omega)))⟩
theorem zH10_n {x v : Int32} {M Y F : pvM} (hoy : pvOk Y) (hl : (M.1 124 14).toInt < 6) (d : zQX (Int32.toNatClampNeg (M.1 124 14)) (some (pvI x)) M Y) (h14 : Y.1 124 14 = M.1 124 14) (h15 : Y.1 124 15 = M.1 124 15) (e1 : F = pvu Y 124 16 0) (hx : x = 0) (hv : v = (-10) - F.1 124 17) : zH10 (some (pvI v)) M F := by
  obtain ⟨d1, b, S, e, d2, d3⟩ := d
  have e : x = bif b then 1 else 0 := Sum.inl.inj (Option.some.inj e)
  have hb : b = false := by
    cases b
    · rfl
    · rw [hx] at e; exact absurd e (by decide)
  subst hb
  have r := pvok_r hoy 124 17 (lo := 0) (hi := 100) rfl
  have t := ztn _ r.1
  have e2 : F.1 124 17 = nI (zP10 Y) := by
    rw [pvu_n e1 124 17 (Or.inr (by decide)), zi_eq]
    unfold zP10
    rw [nI_toInt (by omega), t]
  exact Or.inr ⟨hl, false, S, zP10 Y, d2, by rw [if_neg (by decide), hv, e2], pvu_s e1, by rw [if_neg (by decide), pvu_n e1 124 14 (Or.inr (by decide)), h14], by rw [if_neg (by decide), pvu_n e1 124 15 (Or.inr (by decide)), h15], zQf_t d1 (zQf_u e1 (Or.inl (by decide))), fun z => absurd z (by decide)⟩
theorem zH10_y {x v : Int32} {M Y F G H : pvM} (hl : (M.1 124 14).toInt < 6) (d : zQX (Int32.toNatClampNeg (M.1 124 14)) (some (pvI x)) M Y) (h14 : Y.1 124 14 = M.1 124 14) (e1 : F = pvu Y 124 16 0) (hx : ¬ x = 0) (e2 : G = pvu F 124 15 (F.1 124 14)) (e3 : H = pvu G 124 14 (G.1 124 14 + 1)) (hv : v = H.1 124 15) : zH10 (some (pvI v)) M H := by
  obtain ⟨d1, b, S, e, d2, d3⟩ := d
  have e : x = bif b then 1 else 0 := Sum.inl.inj (Option.some.inj e)
  have hb : b = true := by
    cases b
    · exact absurd e hx
    · rfl
  subst hb
  have f14 : F.1 124 14 = M.1 124 14 := (pvu_n e1 124 14 (Or.inr (by decide))).trans h14
  have x15 : H.1 124 15 = M.1 124 14 := by rw [pvu_n e3 124 15 (Or.inr (by decide)), pvu_s e2, f14]
  refine Or.inr ⟨hl, true, S, zP10 Y, d2, by rw [if_pos rfl, hv, x15], ?_, ?_, by rw [if_pos rfl]; exact x15, zQf_t d1 (zQf_t (zQf_u e1 (Or.inl (by decide))) (zQf_t (zQf_u e2 (Or.inl (by decide))) (zQf_u e3 (Or.inl (by decide))))), fun _ => zHR_u (zHR_u (zHR_u (d3 rfl) e1 (Or.inl (by decide))) e2 (Or.inl (by decide))) e3 (Or.inl (by decide))⟩
  · rw [pvu_n e3 124 16 (Or.inr (by decide)), pvu_n e2 124 16 (Or.inr (by decide))]; exact pvu_s e1
  · rw [if_pos rfl, pvu_s e3, pvu_n e2 124 14 (Or.inr (by decide)), f14]
/-! what moves: MINUTE, where SHE is, what is SHUT, of both sides -/
def zw9 (a s : Nat) (M : pvM) : Nat → Int32
  | 0 => M.1 a 4
  | 1 => M.1 a 6
  | 2 => M.1 a 7
  | k + 3 => M.1 (s + k) 5
def zw0 (a b c s : Nat) (M : pvM) : Nat → Int32
  | 0 => M.1 124 a
  | 1 => M.1 124 b
  | 2 => M.1 124 c
  | k + 3 => M.1 s k
def zKy9 (a s : Nat) (M X : pvM) : Prop := ∀ k : Nat, k < 10 → zw9 a s X k = zw9 a s M k
def zKy0 (a b c s : Nat) (M X : pvM) : Prop := ∀ k : Nat, k < 10 → zw0 a b c s X k = zw0 a b c s M k
theorem zKy9_r (a s : Nat) (M : pvM) : zKy9 a s M M := fun _ _ => rfl
theorem zKy0_r (a b c s : Nat) (M : pvM) : zKy0 a b c s M M := fun _ _ => rfl
theorem zKy9_fr {L : List (Nat × Nat × Nat)} {a s : Nat} {M X : pvM} (hf : pvFr (pvfp L) M X) (hx : (!pvfp L a 4 && !pvfp L a 6 && !pvfp L a 7 && (List.range 7).all (fun i => !pvfp L (s + i) 5)) = true) : zKy9 a s M X := by
  simp only [Bool.and_eq_true, Bool.not_eq_true'] at hx
  intro k hk
  match k, hk with
  | 0, _ => exact hf _ _ hx.1.1.1
  | 1, _ => exact hf _ _ hx.1.1.2
  | 2, _ => exact hf _ _ hx.1.2
  | k + 3, h => exact hf _ _ (by simpa using List.all_eq_true.mp hx.2 k (List.mem_range.mpr (by omega)))
theorem zKy0_fr {L : List (Nat × Nat × Nat)} {a b c s : Nat} {M X : pvM} (hf : pvFr (pvfp L) M X) (hx : (!pvfp L 124 a && !pvfp L 124 b && !pvfp L 124 c && (List.range 7).all (fun i => !pvfp L s i)) = true) : zKy0 a b c s M X := by
  simp only [Bool.and_eq_true, Bool.not_eq_true'] at hx
  intro k hk
  match k, hk with
  | 0, _ => exact hf _ _ hx.1.1.1
  | 1, _ => exact hf _ _ hx.1.1.2
  | 2, _ => exact hf _ _ hx.1.2
  | k + 3, h => exact hf _ _ (by simpa using List.all_eq_true.mp hx.2 k (List.mem_range.mpr (by omega)))
/-- what a call does with a view, V before, W behind it -/
def zwW (n n' : Int32) (V W : Nat → Int32) : Prop := (n' = n ∧ ∀ k : Nat, k < 10 → W k = V k) ∨ (n'.toInt = n.toInt + 1 ∧ ∀ k : Nat, k < 10 → W k = if k = 3 + Int32.toNatClampNeg n then 0 else V k)
def zvl (n w : Int32) : Prop := 0 ≤ n.toInt ∧ n.toInt < w.toInt
def zpl (a b : Int32) : Prop := (0 ≤ a.toInt ∧ a.toInt ≤ 3) ∧ 0 ≤ b.toInt ∧ b.toInt ≤ 4
def zwP (n1 n2 w : Int32) (V W : Nat → Int32) : Prop := (¬ zvl n1 w ∧ ∀ k : Nat, k < 10 → W k = V k) ∨ (zvl n1 w ∧ ∀ k : Nat, k < 10 → W k = if k = 3 + Int32.toNatClampNeg n1 then n2 else V k)
def zwS (n1 n2 : Int32) (V W : Nat → Int32) : Prop := (¬ zpl n1 n2 ∧ ∀ k : Nat, k < 10 → W k = V k) ∨ (zpl n1 n2 ∧ ∀ k : Nat, k < 10 → W k = if k = 1 then n1 else if k = 2 then n2 else V k)
def zgo (n1 m : Int32) : Prop := (0 ≤ n1.toInt ∧ n1.toInt ≤ 99) ∧ m.toInt + n1.toInt ≤ 9999
def zwG (n1 : Int32) (V W : Nat → Int32) : Prop := (¬ zgo n1 (V 0) ∧ ∀ k : Nat, k < 10 → W k = V k) ∨ (zgo n1 (V 0) ∧ ∀ k : Nat, k < 10 → W k = if k = 0 then V 0 + n1 else V k)
def zwT (n1 f g : Int32) (r : Option pvV) (V W : Nat → Int32) : Prop := ∃ x : Int32, r = some (pvI x) ∧ ((x.toInt < 0 ∧ ∀ k : Nat, k < 10 → W k = V k) ∨ ((0 ≤ x.toInt ∧ 0 ≤ n1.toInt ∧ n1.toInt ≤ 6) ∧ ∀ k : Nat, k < 10 → W k = if k = 0 then V 0 + x else if k = 1 then f else if k = 2 then g else if k = 3 + Int32.toNatClampNeg n1 then 1 else V k))
/-- so far as there are windows the same -/
def zVe (n : Int32) (V W : Nat → Int32) : Prop := ∀ k : Nat, k < 10 → (k : Int) < n.toInt + 3 → V k = W k
theorem zVe_k {n n' : Int32} {V W V1 W1 V2 W2 : Nat → Int32} (h : zVe n V W) (hn : n' = n) (a : ∀ k : Nat, k < 10 → V1 k = V k) (b : ∀ k : Nat, k < 10 → W1 k = W k) (a2 : ∀ k : Nat, k < 10 → V2 k = V1 k) (b2 : ∀ k : Nat, k < 10 → W2 k = W1 k) : zVe n' V2 W2 := fun k hk hl => by
  rw [hn] at hl
  rw [a2 k hk, a k hk, b2 k hk, b k hk]
  exact h k hk hl
theorem zpI {x y : Int32} (e : (some (pvI x) : Option pvV) = some (pvI y)) : x = y := Sum.inl.inj (Option.some.inj e)
theorem zVe_w {n n1 n2 m m1 m2 : Int32} {V W V1 W1 V2 W2 : Nat → Int32} (h : zVe n V W) (em : m = n) (em1 : m1 = m) (e2 : n2 = n1) (em2 : m2 = n2) (hr : 0 ≤ n.toInt) (a : zwW n n1 V V1) (b : ∀ k : Nat, k < 10 → W1 k = W k) (a2 : ∀ k : Nat, k < 10 → V2 k = V1 k) (b2 : zwW m1 m2 W1 W2) : zVe n2 V2 W2 := fun k hk hl => by
  subst em1 em em2 e2
  rcases a with ⟨a1, a⟩ | ⟨a1, a⟩ <;> rcases b2 with ⟨b1, b2⟩ | ⟨b1, b2⟩
  · rw [a1] at hl
    rw [a2 k hk, a k hk, b2 k hk, b k hk]
    exact h k hk hl
  · rw [a1] at b1; omega
  · rw [b1] at a1; omega
  · rw [a2 k hk, a k hk, b2 k hk]
    by_cases c : k = 3 + Int32.toNatClampNeg m1
    · rw [if_pos c, if_pos c]
    · rw [if_neg c, if_neg c, b k hk]
      have t := ztn m1 hr
      exact h k hk (by omega)
theorem zVe_p {n n' n1 n2 m1 : Int32} {V W V1 W1 V2 W2 : Nat → Int32} (h : zVe n V W) (hn : n' = n) (em : m1 = n) (a : zwP n1 n2 n V V1) (b : ∀ k : Nat, k < 10 → W1 k = W k) (a2 : ∀ k : Nat, k < 10 → V2 k = V1 k) (b2 : zwP n1 n2 m1 W1 W2) : zVe n' V2 W2 := fun k hk hl => by
  subst em hn
  rcases a with ⟨a1, a⟩ | ⟨a1, a⟩ <;> rcases b2 with ⟨b1, b2⟩ | ⟨b1, b2⟩
  · rw [a2 k hk, a k hk, b2 k hk, b k hk]
    exact h k hk hl
  · exact absurd b1 a1
  · exact absurd a1 b1
  · rw [a2 k hk, a k hk, b2 k hk, b k hk, h k hk hl]
theorem zVe_s {n n1 n2 n' : Int32} {V W V1 W1 V2 W2 : Nat → Int32} (h : zVe n V W) (hn : n' = n) (a : zwS n1 n2 V V1) (b : ∀ k : Nat, k < 10 → W1 k = W k) (a2 : ∀ k : Nat, k < 10 → V2 k = V1 k) (b2 : zwS n1 n2 W1 W2) : zVe n' V2 W2 := fun k hk hl => by
  subst hn
  rcases a with ⟨a1, a⟩ | ⟨a1, a⟩ <;> rcases b2 with ⟨b1, b2⟩ | ⟨b1, b2⟩
  · rw [a2 k hk, a k hk, b2 k hk, b k hk]
    exact h k hk hl
  · exact absurd b1 a1
  · exact absurd a1 b1
  · rw [a2 k hk, a k hk, b2 k hk, b k hk, h k hk hl]
theorem zVe_g {n n1 n' : Int32} {V W V1 W1 V2 W2 : Nat → Int32} (h : zVe n V W) (hn : n' = n) (hr : 0 ≤ n.toInt) (a : zwG n1 V V1) (b : ∀ k : Nat, k < 10 → W1 k = W k) (a2 : ∀ k : Nat, k < 10 → V2 k = V1 k) (b2 : zwG n1 W1 W2) : zVe n' V2 W2 := fun k hk hl => by
  subst hn
  have e0 : V 0 = W1 0 := (h 0 (by decide) (by omega)).trans (b 0 (by decide)).symm
  unfold zwG at b2
  rw [← e0] at b2
  rcases a with ⟨a1, a⟩ | ⟨a1, a⟩ <;> rcases b2 with ⟨b1, b2⟩ | ⟨b1, b2⟩
  · rw [a2 k hk, a k hk, b2 k hk, b k hk]
    exact h k hk hl
  · exact absurd b1 a1
  · exact absurd a1 b1
  · rw [a2 k hk, a k hk, b2 k hk, b k hk, h k hk hl]
theorem zVe_t {n n1 f g f' g' v9 v10 n' : Int32} {V W V1 W1 V2 W2 : Nat → Int32} (h : zVe n V W) (hn : n' = n) (hr : 0 ≤ n.toInt) (e : v9 = v10) (ef : 0 ≤ v9.toInt → f = f' ∧ g = g') (a : zwT n1 f g (some (pvI v9)) V V1) (b : ∀ k : Nat, k < 10 → W1 k = W k) (a2 : ∀ k : Nat, k < 10 → V2 k = V1 k) (b2 : zwT n1 f' g' (some (pvI v10)) W1 W2) : zVe n' V2 W2 := fun k hk hl => by
  subst e hn
  have e0 : V 0 = W1 0 := (h 0 (by decide) (by omega)).trans (b 0 (by decide)).symm
  obtain ⟨x, ex, a⟩ := a
  obtain ⟨y, ey, b2⟩ := b2
  have ex := zpI ex
  have ey := zpI ey
  subst ex ey
  rcases a with ⟨a1, a⟩ | ⟨a1, a⟩ <;> rcases b2 with ⟨b1, b2⟩ | ⟨b1, b2⟩ <;> try omega
  · rw [a2 k hk, a k hk, b2 k hk, b k hk]
    exact h k hk hl
  · obtain ⟨e1, e2⟩ := ef a1.1
    rw [a2 k hk, a k hk, b2 k hk, b k hk, h k hk hl, e0, e1, e2]
/-- a view is copied -/
def zwC (n : Int32) (V W : Nat → Int32) : Prop := ∀ k : Nat, k < 10 → (k : Int) < n.toInt + 3 → W k = V k
def zwU (c n : Int32) (K V W : Nat → Int32) : Prop := (c = 0 ∧ ∀ k : Nat, k < 10 → W k = V k) ∨ (¬ c = 0 ∧ zwC n K W)
theorem zVe_i {n n' m : Int32} {V W K2 L2 W1 K1 : Nat → Int32} (h : zVe n V W) (hn : n' = n) (em : 7 ≤ m.toInt ∨ m = n) (a : zwC n V K1) (b : ∀ k : Nat, k < 10 → W1 k = W k) (a2 : ∀ k : Nat, k < 10 → K2 k = K1 k) (b2 : zwC m W1 L2) : zVe n' K2 L2 := fun k hk hl => by
  subst hn
  rw [a2 k hk, a k hk hl, b2 k hk (by rcases em with z | z; omega; rw [z]; exact hl), b k hk]
  exact h k hk hl
theorem zVe_u {n nk n' c d m : Int32} {V W K L V1 V2 W1 W2 L1 : Nat → Int32} (h : zVe n V W) (hk : zVe nk K L) (ec : d = c) (hn : c = 0 → n' = n) (hn2 : ¬ c = 0 → n' = nk) (em : 7 ≤ m.toInt ∨ m = nk) (a : zwU c nk K V V1) (b : ∀ k : Nat, k < 10 → W1 k = W k) (bl : ∀ k : Nat, k < 10 → L1 k = L k) (a2 : ∀ k : Nat, k < 10 → V2 k = V1 k) (b2 : zwU d m L1 W1 W2) : zVe n' V2 W2 := by
  subst ec
  rcases a with ⟨a1, a⟩ | ⟨a1, a⟩ <;> rcases b2 with ⟨b1, b2⟩ | ⟨b1, b2⟩
  · exact zVe_k h (hn a1) a b a2 b2
  · exact absurd a1 b1
  · exact absurd b1 a1
  · rw [hn2 a1]
    exact zVe_i hk rfl em a bl a2 b2
/-! how far, how long -/
def zdst (a b : Int) : Int := if a ≤ b then b - a else a - b
def zWy (s fl rm f r : Int) : Int := s * zdst fl f + zdst rm r
def zTm (kd tk : Int32) : Int := if kd = 1 ∨ kd = 4 then 2 * tk.toInt else tk.toInt
theorem zabs9 {a f : Int32} (ha : 0 ≤ a.toInt ∧ a.toInt ≤ 4) (hf : 0 ≤ f.toInt ∧ f.toInt ≤ 4) : (if 0 ≤ a - f then a - f else 0 - (a - f)).toInt = zdst a.toInt f.toInt ∧ 0 ≤ zdst a.toInt f.toInt ∧ zdst a.toInt f.toInt ≤ 4 := by
  have u0 : (0 : Int32).toInt = 0 := by decide
  have e : (a - f).toInt = a.toInt - f.toInt := zsub _ _ (by omega) (by omega)
  have e2 : (0 - (a - f)).toInt = 0 - (a - f).toInt := by rw [zsub _ _ (by rw [u0]; omega) (by rw [u0]; omega), u0]
  unfold zdst
  by_cases c : 0 ≤ a - f
  · rw [if_pos c, e]
    rw [zi_le, u0, e] at c
    split <;> omega
  · rw [if_neg c, e2, e]
    rw [zi_le, u0, e] at c
    split <;> omega
theorem zwy {x a b : Int32} {S fl rm f r : Int} (hx : x.toInt = S) (hr : 0 ≤ x.toInt ∧ x.toInt ≤ 99) (ha : a.toInt = zdst fl f) (ha2 : 0 ≤ a.toInt ∧ a.toInt ≤ 4) (hb : b.toInt = zdst rm r) (hb2 : 0 ≤ b.toInt ∧ b.toInt ≤ 4) : ((x * a) + b).toInt = zWy S fl rm f r := by
  have p : 0 ≤ x.toInt * a.toInt ∧ x.toInt * a.toInt ≤ 99 * 4 := ⟨Int.mul_nonneg hr.1 ha2.1, Int.mul_le_mul hr.2 ha2.2 ha2.1 (by decide)⟩
  have e := zmul x a (by omega) (by omega)
  rw [zadd _ _ (by rw [e]; omega) (by rw [e]; omega), e, hx, ha, hb]
  rfl
/-- what shut answers -/
def zsA (n w sh mi : Int32) (c : Int) (r : Option pvV) : Prop := ∃ x : Int32, r = some (pvI x) ∧ ((¬ zvl n w ∧ x = -1) ∨ (zvl n w ∧ (((¬ sh = 0 ∨ 9999 < mi.toInt + c) ∧ x = -3) ∨ (sh = 0 ∧ mi.toInt + c ≤ 9999 ∧ x.toInt = c))))
theorem zsA_d {n w sh mi w' sh' mi' v9 v10 : Int32} {c c' : Int} (h : zsA n w sh mi c (some (pvI v9))) (k : zsA n w' sh' mi' c' (some (pvI v10))) (ew : w = w') (e : zvl n w → sh = sh' ∧ mi = mi' ∧ c = c') : v9 = v10 := by
  subst ew
  obtain ⟨x, ex, h⟩ := h
  obtain ⟨y, ey, k⟩ := k
  have ex := zpI ex
  have ey := zpI ey
  subst ex ey
  rcases h with ⟨h1, h2⟩ | ⟨h1, h2⟩ <;> rcases k with ⟨k1, k2⟩ | ⟨k1, k2⟩
  · rw [h2, k2]
  · exact absurd k1 h1
  · exact absurd h1 k1
  · obtain ⟨rfl, rfl, rfl⟩ := e h1
    rcases h2 with ⟨a1, a2⟩ | ⟨a1, a2, a3⟩ <;> rcases k2 with ⟨b1, b2⟩ | ⟨b1, b2, b3⟩
    · rw [a2, b2]
    · rcases a1 with z | z
      · exact absurd b1 z
      · omega
    · rcases b1 with z | z
      · exact absurd a1 z
      · omega
    · exact (zi_eq _ _).mpr (a3.trans b3.symm)
def zpA (n w sh : Int32) (r : Option pvV) : Prop := ∃ x : Int32, r = some (pvI x) ∧ ((¬ zvl n w ∧ x = -1) ∨ (zvl n w ∧ x = sh))
theorem zpA_d {n w sh w' sh' v9 v10 : Int32} (h : zpA n w sh (some (pvI v9))) (k : zpA n w' sh' (some (pvI v10))) (ew : w = w') (e : zvl n w → sh = sh') : v9 = v10 := by
  subst ew
  obtain ⟨x, ex, h⟩ := h
  obtain ⟨y, ey, k⟩ := k
  have ex := zpI ex
  have ey := zpI ey
  subst ex ey
  rcases h with ⟨h1, h2⟩ | ⟨h1, h2⟩ <;> rcases k with ⟨k1, k2⟩ | ⟨k1, k2⟩
  · rw [h2, k2]
  · exact absurd k1 h1
  · exact absurd h1 k1
  · rw [h2, k2, e h1]
/-! the last stair, the last last -/
def zL10 (M : pvM) (w d : Int32) (a : Nat) : Nat → Int32
  | 0 => d
  | k + 1 => if M.1 134 (a + k) = w then M.1 135 (a + k) else zL10 M w d a k
def zfi (M : pvM) : Nat := if 0 ≤ M.1 124 15 then Int32.toNatClampNeg (10 * M.1 124 15) else 0
def zlO (M : pvM) (w d : Int32) : Int32 := if 0 ≤ M.1 124 15 then zL10 M w d (zfi M) (Int32.toNatClampNeg (M.1 133 (Int32.toNatClampNeg (M.1 124 15)))) else d
def zLo (M : pvM) (w d n c : Int32) : Prop := ∃ k : Nat, Int32.toNatClampNeg c = zfi M + k ∧ n = zL10 M w d (zfi M) k ∧ (¬ 0 ≤ M.1 124 15 → k = 0) ∧ (0 ≤ M.1 124 15 → k ≤ Int32.toNatClampNeg (M.1 133 (Int32.toNatClampNeg (M.1 124 15))))
theorem zLo_0 {M : pvM} {w d c : Int32} (h : Int32.toNatClampNeg c = zfi M) : zLo M w d d c := ⟨0, h, rfl, fun _ => rfl, fun _ => Nat.zero_le _⟩
theorem zfi_y {M : pvM} (h : 0 ≤ M.1 124 15) : Int32.toNatClampNeg (10 * M.1 124 15) = zfi M := (if_pos h).symm
theorem zfi_n {M : pvM} (h : ¬ 0 ≤ M.1 124 15) : Int32.toNatClampNeg 0 = zfi M := (if_neg h).symm
theorem zLo_s {M : pvM} {w d n c n' c' : Int32} (hok : pvOk M) (h : zLo M w d n c) (h0 : 0 ≤ M.1 124 15) (hl : c.toInt < (10 * M.1 124 15 + M.1 133 (Int32.toNatClampNeg (M.1 124 15))).toInt) (hc : 0 ≤ c.toInt) (hc' : c'.toInt = c.toInt + 1) (hn : (M.1 134 (Int32.toNatClampNeg c) = w → n' = M.1 135 (Int32.toNatClampNeg c)) ∧ (¬ M.1 134 (Int32.toNatClampNeg c) = w → n' = n)) : zLo M w d n' c' := by
  obtain ⟨k, k1, k2, k3, k4⟩ := h
  have r := pvok_r hok 124 15 (lo := -1) (hi := 5) rfl
  have r2 := pvok_r hok 133 (Int32.toNatClampNeg (M.1 124 15)) (lo := 0) (hi := 10) rfl
  have u0 : (0 : Int32).toInt = 0 := by decide
  have u10 : (10 : Int32).toInt = 10 := by decide
  have h0' := h0
  rw [zi_le, u0] at h0'
  have e := zmul 10 (M.1 124 15) (by rw [u10]; omega) (by rw [u10]; omega)
  have e2 : (10 * M.1 124 15 + M.1 133 (Int32.toNatClampNeg (M.1 124 15))).toInt = 10 * (M.1 124 15).toInt + (M.1 133 (Int32.toNatClampNeg (M.1 124 15))).toInt := by rw [zadd _ _ (by rw [e, u10]; omega) (by rw [e, u10]; omega), e, u10]
  have f : (zfi M : Int) = 10 * (M.1 124 15).toInt := by
    rw [← zfi_y h0, ztn _ (by rw [e, u10]; omega), e, u10]
  have t := ztn c hc
  have t' := ztn c' (by omega)
  have t2 := ztn _ r2.1
  refine ⟨k + 1, by omega, ?_, fun z => absurd h0 z, fun _ => by omega⟩
  show n' = if M.1 134 (zfi M + k) = w then M.1 135 (zfi M + k) else zL10 M w d (zfi M) k
  rw [← k1, ← k2]
  by_cases q : M.1 134 (Int32.toNatClampNeg c) = w
  · rw [if_pos q]; exact hn.1 q
  · rw [if_neg q]; exact hn.2 q
theorem zLo_e {M : pvM} {w d n c : Int32} (hok : pvOk M) (h : zLo M w d n c) (h0 : 0 ≤ M.1 124 15) (hl : (10 * M.1 124 15 + M.1 133 (Int32.toNatClampNeg (M.1 124 15))).toInt ≤ c.toInt) : n = zlO M w d := by
  obtain ⟨k, k1, k2, k3, k4⟩ := h
  have r := pvok_r hok 124 15 (lo := -1) (hi := 5) rfl
  have r2 := pvok_r hok 133 (Int32.toNatClampNeg (M.1 124 15)) (lo := 0) (hi := 10) rfl
  have u0 : (0 : Int32).toInt = 0 := by decide
  have u10 : (10 : Int32).toInt = 10 := by decide
  have h0' := h0
  rw [zi_le, u0] at h0'
  have e := zmul 10 (M.1 124 15) (by rw [u10]; omega) (by rw [u10]; omega)
  have e2 : (10 * M.1 124 15 + M.1 133 (Int32.toNatClampNeg (M.1 124 15))).toInt = 10 * (M.1 124 15).toInt + (M.1 133 (Int32.toNatClampNeg (M.1 124 15))).toInt := by rw [zadd _ _ (by rw [e, u10]; omega) (by rw [e, u10]; omega), e, u10]
  have f : (zfi M : Int) = 10 * (M.1 124 15).toInt := by
    rw [← zfi_y h0, ztn _ (by rw [e, u10]; omega), e, u10]
  have t := ztn c (by omega)
  have t2 := ztn _ r2.1
  have kk := k4 h0
  unfold zlO
  rw [if_pos h0, k2]
  congr 1
  omega
theorem zLo_n {M : pvM} {w d n c : Int32} (h : zLo M w d n c) (h0 : ¬ 0 ≤ M.1 124 15) : n = zlO M w d := by
  obtain ⟨k, k1, k2, k3, k4⟩ := h
  unfold zlO
  rw [if_neg h0, k2, k3 h0]
  rfl
/-! the HOUSES of both sides -/
def zHH (M : pvM) (q h : Nat) : Prop := ∃ S : List (Nat × Int32 × List Int32), zHC M q S ∧ zHR M h S
def zHo (M : pvM) (a t : Int32) : Prop := (t.toInt < 0 ∧ (a = nI 22 ∨ a = nI 23)) ∨ (0 ≤ t.toInt ∧ t.toInt < (M.1 0 1).toInt ∧ a = nI (15 + Int32.toNatClampNeg t))
def zHW (M : pvM) : Prop := (∀ h : Nat, (h : Int) < (M.1 0 1).toInt → zHH M (15 + h) h) ∧ zHC M 22 [] ∧ zHC M 23 [] ∧ zHo M (M.1 8 8) (M.1 124 15) ∧ zHo M (M.1 9 8) (M.1 124 47)
/-- what the class, what the reference keeps of them -/
def zKh9 (M X : pvM) : Prop := X.1 0 1 = M.1 0 1 ∧ X.1 8 8 = M.1 8 8 ∧ X.1 9 8 = M.1 9 8 ∧ ∀ a c : Nat, 15 ≤ a → a < 51 → X.1 a c = M.1 a c
def zKh0 (M X : pvM) : Prop := X.1 124 14 = M.1 124 14 ∧ X.1 124 15 = M.1 124 15 ∧ X.1 124 47 = M.1 124 47 ∧ ∀ a c : Nat, 133 ≤ a → a < 139 → X.1 a c = M.1 a c
theorem zKh9_r (M : pvM) : zKh9 M M := ⟨rfl, rfl, rfl, fun _ _ _ _ => rfl⟩
theorem zKh0_r (M : pvM) : zKh0 M M := ⟨rfl, rfl, rfl, fun _ _ _ _ => rfl⟩
theorem zKh9_fr {L : List (Nat × Nat × Nat)} {M X : pvM} (hf : pvFr (pvfp L) M X) (hx : (!pvfp L 0 1 && !pvfp L 8 8 && !pvfp L 9 8 && (List.range 36).all (fun i => !pvfq L (15 + i))) = true) : zKh9 M X := by
  simp only [Bool.and_eq_true, Bool.not_eq_true'] at hx
  refine ⟨hf _ _ hx.1.1.1, hf _ _ hx.1.1.2, hf _ _ hx.1.2, fun a c h1 h2 => hf _ _ (pvfq_p ?_ c)⟩
  have k := List.all_eq_true.mp hx.2 (a - 15) (List.mem_range.mpr (by omega))
  rw [show 15 + (a - 15) = a by omega] at k
  simpa using k
theorem zKh0_fr {L : List (Nat × Nat × Nat)} {M X : pvM} (hf : pvFr (pvfp L) M X) (hx : (!pvfp L 124 14 && !pvfp L 124 15 && !pvfp L 124 47 && (List.range 6).all (fun i => !pvfq L (133 + i))) = true) : zKh0 M X := by
  simp only [Bool.and_eq_true, Bool.not_eq_true'] at hx
  refine ⟨hf _ _ hx.1.1.1, hf _ _ hx.1.1.2, hf _ _ hx.1.2, fun a c h1 h2 => hf _ _ (pvfq_p ?_ c)⟩
  have k := List.all_eq_true.mp hx.2 (a - 133) (List.mem_range.mpr (by omega))
  rw [show 133 + (a - 133) = a by omega] at k
  simpa using k
theorem zHR_k {M X : pvM} {f : Nat} {S : List (Nat × Int32 × List Int32)} (h : zHR M f S) (k : ∀ a c : Nat, 133 ≤ a → a < 139 → X.1 a c = M.1 a c) : zHR X f S := ⟨by rw [k 133 f (by decide) (by decide)]; exact h.1, zHb_k h.2 (fun i _ => ⟨k _ _ (by decide) (by decide), k _ _ (by decide) (by decide), k _ _ (by decide) (by decide), k _ _ (by decide) (by decide)⟩) (fun i j x _ _ _ => k _ _ (by decide) (by decide))⟩
theorem zHC_9 {M X : pvM} {q : Nat} {S : List (Nat × Int32 × List Int32)} (h : zHC M q S) (hq : 15 ≤ q ∧ q ≤ 23) (k : ∀ a c : Nat, 15 ≤ a → a < 51 → X.1 a c = M.1 a c) : zHC X q S := zHC_k h (fun a c z => k a c (by rcases z with z | z | z | z <;> omega) (by rcases z with z | z | z | z <;> omega))
theorem zHo_n {M X : pvM} {a t : Int32} (h : zHo M a t) (k : (M.1 0 1).toInt ≤ (X.1 0 1).toInt) : zHo X a t := by
  rcases h with h | ⟨h1, h2, h3⟩
  · exact Or.inl h
  · exact Or.inr ⟨h1, by omega, h3⟩
/-- one side after the other, HOUSES stay -/
theorem zHW_k {M X : pvM} (h : zHW M) (h6 : (M.1 0 1).toInt ≤ 6) (n : X.1 0 1 = M.1 0 1) (k9 : ∀ a c : Nat, 15 ≤ a → a < 51 → X.1 a c = M.1 a c) (k0 : ∀ a c : Nat, 133 ≤ a → a < 139 → X.1 a c = M.1 a c) (hS : zHo M (X.1 8 8) (X.1 124 15)) (hK : zHo M (X.1 9 8) (X.1 124 47)) : zHW X := by
  obtain ⟨a1, a2, a3, a4, a5⟩ := h
  refine ⟨fun i hi => ?_, zHC_9 a2 (by decide) k9, zHC_9 a3 (by decide) k9, zHo_n hS (by rw [n]; exact Int.le_refl _), zHo_n hK (by rw [n]; exact Int.le_refl _)⟩
  rw [n] at hi
  obtain ⟨S, s1, s2⟩ := a1 i hi
  exact ⟨S, zHC_9 s1 (by omega) k9, zHR_k s2 k0⟩
theorem zHW_h {v9 v10 : Int32} {M Y X : pvM} (h : zHW M) (p : zPH M) (hr : 0 ≤ (M.1 0 1).toInt) (h10 : ∀ i : Nat, (M.1 133 i).toInt ≤ 10) (g9 : zH9 (some (pvI v9)) M Y) (k9 : Y.1 9 8 = M.1 9 8) (k0 : zKh0 M Y) (b : zKx 124 14 124 16 132 M Y) (g10 : zH10 (some (pvI v10)) Y X) (l47 : X.1 124 47 = Y.1 124 47) (l9 : zKh9 Y X) : zHW X := by
  have q14 : Y.1 124 14 = M.1 0 1 := b.1.trans p.1.symm
  have q16 : Y.1 124 16 = M.1 6 1 := b.2.1.trans p.2.1.symm
  have st : zs10 Y = zs9 M := by
    funext i
    unfold zs10 zs9
    rw [q16]
    by_cases c : (i : Int) < (M.1 6 1).toInt
    · rw [if_pos c, if_pos c, b.2.2, p.2.2 i c]
    · rw [if_neg c, if_neg c]
  rcases g9 with ⟨c, _, k⟩ | ⟨c, t, S, q, k1, k2, k3, k4, k5, k6, k7⟩
  · rcases g10 with ⟨d, _, l⟩ | ⟨d, _⟩
    · subst k l
      exact h
    · rw [q14] at d; omega
  · rcases g10 with ⟨d, _⟩ | ⟨d, t', S', q', l1, l2, l3, l4, l5, l6, l7⟩
    · rw [q14] at d; omega
    · rw [st] at l1
      obtain ⟨rfl, rfl, eS⟩ := zTX_d 9 k1 l1
      rw [q14] at l4 l5 l6 l7
      have tn := ztn _ hr
      obtain ⟨a1, a2, a3, a4, a5⟩ := h
      have k9' : ∀ a c : Nat, 15 ≤ a → a < 51 → ¬ zin (15 + Int32.toNatClampNeg (M.1 0 1)) a → X.1 a c = M.1 a c := fun a c u v w => (l9.2.2.2 a c u v).trans (k6 a c u v w)
      have old : ∀ (z : Nat) (T : List (Nat × Int32 × List Int32)), 15 ≤ z → z ≤ 23 → z ≠ 15 + Int32.toNatClampNeg (M.1 0 1) → zHC M z T → zHC X z T := fun z T z1 z2 z3 hz => zHC_k hz (fun a c u => k9' a c (by rcases u with u | u | u | u <;> omega) (by rcases u with u | u | u | u <;> omega) (by
        unfold zin
        rcases u with u | u | u | u <;> omega))
      have oldR : ∀ (i : Nat) (T : List (Nat × Int32 × List Int32)), i < Int32.toNatClampNeg (M.1 0 1) → zHR M i T → zHR X i T := fun i T hi hT => by
        have hY := zHR_k hT k0.2.2.2
        refine ⟨by rw [l6.2.2 i (by omega)]; exact hY.1, zHb_k hY.2 (fun j hj => l6.1 _ ?_) (fun j z x ex hx hz => l6.2.1 z ?_)⟩
        · have e := hT.1
          have e2 := h10 i
          omega
        · have := (hY.2 j x ex).2.2 hx
          omega
      have nine : X.1 9 8 = M.1 9 8 := l9.2.2.1.trans k9
      have f47 : X.1 124 47 = M.1 124 47 := l47.trans k0.2.2.1
      have up : zHo M (M.1 9 8) (M.1 124 47) → (M.1 0 1).toInt ≤ (X.1 0 1).toInt → zHo X (X.1 9 8) (X.1 124 47) := fun z w => by
        rw [nine, f47]
        exact zHo_n z w
      cases t with
      | false =>
        rw [if_neg Bool.false_ne_true] at k4 k5 l4 l5
        have c1 : X.1 0 1 = M.1 0 1 := l9.1.trans k4
        refine ⟨fun i hi => ?_, old 22 [] (by decide) (by decide) (by omega) a2, old 23 [] (by decide) (by decide) (by omega) a3, ?_, up a5 (by rw [c1]; exact Int.le_refl _)⟩
        · rw [c1] at hi
          obtain ⟨T, t1, t2⟩ := a1 i hi
          exact ⟨T, old _ T (by omega) (by omega) (by omega) t1, oldR i T (by omega) t2⟩
        · rw [l9.2.1, k5, l5, k0.2.1]
          exact zHo_n a4 (by rw [c1]; exact Int.le_refl _)
      | true =>
        rw [if_pos rfl] at k4 k5 l4 l5
        have c1 : (X.1 0 1).toInt = (M.1 0 1).toInt + 1 := by rw [l9.1, k4, zadd_1 _ (by omega)]
        refine ⟨fun i hi => ?_, old 22 [] (by decide) (by decide) (by omega) a2, old 23 [] (by decide) (by decide) (by omega) a3, ?_, up a5 (by omega)⟩
        · by_cases e : i = Int32.toNatClampNeg (M.1 0 1)
          · subst e
            have eS := eS rfl
            exact ⟨S, zHC_9 (k7 rfl) (by omega) l9.2.2.2, by rw [eS]; exact l7 rfl⟩
          · obtain ⟨T, t1, t2⟩ := a1 i (by omega)
            exact ⟨T, old _ T (by omega) (by omega) (by omega) t1, oldR i T (by omega) t2⟩
        · rw [l9.2.1, k5, l5]
          exact Or.inr ⟨hr, by omega, rfl⟩
theorem zL10_S {M : pvM} {f w : Nat} {d : Int32} (hw : w < 4) {S : List (Nat × Int32 × List Int32)} (h : zHb M f S) : ∀ k : Nat, k ≤ S.length → zL10 M (nI w) d (10 * f) k = zlst w d (S.take k)
  | 0, _ => rfl
  | k + 1, hk => by
    rw [List.take_succ_eq_append_getElem hk, zlst_a]
    show (if M.1 134 (10 * f + k) = nI w then M.1 135 (10 * f + k) else zL10 M (nI w) d (10 * f) k) = _
    obtain ⟨⟨a1, a2⟩, a3, _⟩ := h k S[k] (List.getElem?_eq_getElem hk)
    rw [a2, a3, zL10_S hw h k (by omega)]
    have n : ∀ i, i < 4 → ∀ j, j < 4 → (nI i = nI j ↔ i = j) := by decide
    by_cases c : S[k].1 = w
    · rw [if_pos c, if_pos (by rw [c])]
    · rw [if_neg c, if_neg (fun z => c ((n _ a1 _ hw).mp z))]
/-- the stair of the HOUSE that holds -/
theorem zst_e {M : pvM} (hok : pvOk M) (h : zHW M) : M.1 (pvhp (M.1 8 8)) 0 = zlO M 2 2 ∧ M.1 (pvhp (M.1 8 8)) 1 = zlO M 3 15 := by
  obtain ⟨a1, a2, a3, a4, a5⟩ := h
  have r := pvok_r hok 124 15 (lo := -1) (hi := 5) rfl
  have u0 : (0 : Int32).toInt = 0 := by decide
  have u10 : (10 : Int32).toInt = 10 := by decide
  unfold zlO
  rcases a4 with ⟨b1, b2⟩ | ⟨b1, b2, b3⟩
  · rw [if_neg (by rw [zi_le, u0]; omega), if_neg (by rw [zi_le, u0]; omega)]
    rcases b2 with b2 | b2 <;> rw [b2]
    · exact ⟨a2.1, a2.2.1⟩
    · exact ⟨a3.1, a3.2.1⟩
  · have h0 : 0 ≤ M.1 124 15 := by rw [zi_le, u0]; omega
    rw [if_pos h0, if_pos h0]
    have t := ztn _ b1
    obtain ⟨S, s1, s2⟩ := a1 (Int32.toNatClampNeg (M.1 124 15)) (by omega)
    have e : pvhp (M.1 8 8) = 15 + Int32.toNatClampNeg (M.1 124 15) := by rw [b3]; exact znat (nI_toInt (by omega))
    have f : zfi M = 10 * Int32.toNatClampNeg (M.1 124 15) := by
      have em := zmul 10 (M.1 124 15) (by rw [u10]; omega) (by rw [u10]; omega)
      rw [u10] at em
      have := ztn (10 * M.1 124 15) (by omega)
      rw [← zfi_y h0]
      omega
    have hl : Int32.toNatClampNeg (M.1 133 (Int32.toNatClampNeg (M.1 124 15))) = S.length := znat s2.1
    rw [e, f, hl]
    have g2 := zL10_S (w := 2) (d := 2) (by decide) s2.2 _ (Nat.le_refl _)
    have g3 := zL10_S (w := 3) (d := 15) (by decide) s2.2 _ (Nat.le_refl _)
    rw [List.take_length] at g2 g3
    exact ⟨s1.1.trans g2.symm, s1.2.1.trans g3.symm⟩
/-! views, by parts -/
theorem zwT_i {n1 f g x : Int32} {V W : Nat → Int32} (hx : 0 ≤ x.toInt) (hn : 0 ≤ n1.toInt ∧ n1.toInt ≤ 6) (h0 : W 0 = V 0 + x) (h1 : W 1 = f) (h2 : W 2 = g) (h3 : ∀ i : Nat, i < 7 → W (i + 3) = if i = Int32.toNatClampNeg n1 then 1 else V (i + 3)) : zwT n1 f g (some (pvI x)) V W := ⟨x, rfl, Or.inr ⟨⟨hx, hn⟩, fun k hk => match k, hk with
  | 0, _ => h0
  | 1, _ => h1
  | 2, _ => h2
  | k + 3, z => by
    rw [if_neg (by omega), if_neg (by omega), if_neg (by omega), h3 k (by omega)]
    by_cases c : k = Int32.toNatClampNeg n1
    · rw [if_pos c, if_pos (by omega)]
    · rw [if_neg c, if_neg (by omega)]⟩⟩
theorem zwT_n {n1 f g x : Int32} {V : Nat → Int32} (hx : x.toInt < 0) : zwT n1 f g (some (pvI x)) V V := ⟨x, rfl, Or.inl ⟨hx, fun _ _ => rfl⟩⟩
theorem zwP_i {n1 n2 w : Int32} {V W : Nat → Int32} (hn : zvl n1 w) (h0 : W 0 = V 0) (h1 : W 1 = V 1) (h2 : W 2 = V 2) (h3 : ∀ i : Nat, i < 7 → W (i + 3) = if i = Int32.toNatClampNeg n1 then n2 else V (i + 3)) : zwP n1 n2 w V W := Or.inr ⟨hn, fun k hk => match k, hk with
  | 0, _ => h0.trans (if_neg (by omega)).symm
  | 1, _ => h1.trans (if_neg (by omega)).symm
  | 2, _ => h2.trans (if_neg (by omega)).symm
  | k + 3, z => by
    rw [h3 k (by omega)]
    by_cases c : k = Int32.toNatClampNeg n1
    · rw [if_pos c, if_pos (by omega)]
    · rw [if_neg c, if_neg (by omega)]⟩
theorem zwP_n {n1 n2 w : Int32} {V : Nat → Int32} (hn : ¬ zvl n1 w) : zwP n1 n2 w V V := Or.inl ⟨hn, fun _ _ => rfl⟩
theorem zwS_i {n1 n2 : Int32} {V W : Nat → Int32} (hn : zpl n1 n2) (h0 : W 0 = V 0) (h1 : W 1 = n1) (h2 : W 2 = n2) (h3 : ∀ i : Nat, i < 7 → W (i + 3) = V (i + 3)) : zwS n1 n2 V W := Or.inr ⟨hn, fun k hk => match k, hk with
  | 0, _ => h0
  | 1, _ => h1
  | 2, _ => h2
  | k + 3, z => by rw [if_neg (by omega), if_neg (by omega), h3 k (by omega)]⟩
theorem zwS_n {n1 n2 : Int32} {V : Nat → Int32} (hn : ¬ zpl n1 n2) : zwS n1 n2 V V := Or.inl ⟨hn, fun _ _ => rfl⟩
theorem zwG_i {n1 : Int32} {V W : Nat → Int32} (hn : zgo n1 (V 0)) (h0 : W 0 = V 0 + n1) (h1 : W 1 = V 1) (h2 : W 2 = V 2) (h3 : ∀ i : Nat, i < 7 → W (i + 3) = V (i + 3)) : zwG n1 V W := Or.inr ⟨hn, fun k hk => match k, hk with
  | 0, _ => h0
  | 1, _ => h1
  | 2, _ => h2
  | k + 3, z => by rw [if_neg (by omega), h3 k (by omega)]⟩
theorem zwG_n {n1 : Int32} {V : Nat → Int32} (hn : ¬ zgo n1 (V 0)) : zwG n1 V V := Or.inl ⟨hn, fun _ _ => rfl⟩
theorem zwC_i {n : Int32} {V W : Nat → Int32} (h0 : W 0 = V 0) (h1 : W 1 = V 1) (h2 : W 2 = V 2) (h3 : ∀ i : Nat, i < 7 → (i : Int) < n.toInt → W (i + 3) = V (i + 3)) : zwC n V W := fun k hk hl => match k, hk, hl with
  | 0, _, _ => h0
  | 1, _, _ => h1
  | 2, _, _ => h2
  | k + 3, z, y => h3 k (by omega) (by omega)
theorem zwW_n {n n' : Int32} {V W : Nat → Int32} (h : n' = n) (k : ∀ k : Nat, k < 10 → W k = V k) : zwW n n' V W := Or.inl ⟨h, k⟩
theorem zwW_i {n n' : Int32} {c : Nat} {V W : Nat → Int32} (hc : (c : Int) ≤ n.toInt ∧ n.toInt ≤ (c : Int)) (h : n'.toInt = (c : Int) + 1) (h0 : W 0 = V 0) (h1 : W 1 = V 1) (h2 : W 2 = V 2) (h3 : ∀ i : Nat, i < 7 → i ≠ c → W (i + 3) = V (i + 3)) (hz : W (c + 3) = 0) : zwW n n' V W := Or.inr ⟨by omega, fun k hk => by
  have e := znp0 hc
  match k, hk with
  | 0, _ => rw [h0, if_neg (by omega)]
  | 1, _ => rw [h1, if_neg (by omega)]
  | 2, _ => rw [h2, if_neg (by omega)]
  | k + 3, z =>
    by_cases q : k = c
    · rw [if_pos (by omega), q]; exact hz
    · rw [if_neg (by omega)]; exact h3 k (by omega) q⟩
theorem zvl_l {n w : Int32} (h : n < 0) : ¬ zvl n w := fun z => by
  have u : (0 : Int32).toInt = 0 := by decide
  have := z.1
  rw [zi_lt, u] at h
  omega
theorem zvl_u {n w : Int32} (h : w ≤ n) : ¬ zvl n w := fun z => by
  have := z.2
  rw [zi_le] at h
  omega
theorem zvl_y {n w : Int32} (h : ¬ n < 0) (k : ¬ w ≤ n) : zvl n w := by
  have u : (0 : Int32).toInt = 0 := by decide
  rw [zi_lt, u] at h
  rw [zi_le] at k
  exact ⟨by omega, by omega⟩
theorem zvl_u0 {n w : Int32} (hr : 0 ≤ w.toInt) (h : w - 1 < n) : ¬ zvl n w := fun z => by
  have := z.2
  have u : (1 : Int32).toInt = 1 := by decide
  have b := zbnd w
  rw [zi_lt, zsub _ _ (by rw [u]; omega) (by rw [u]; omega), u] at h
  omega
theorem zvl_y0 {n w : Int32} (hr : 0 ≤ w.toInt) (h : ¬ n < 0) (k : ¬ w - 1 < n) : zvl n w := by
  have u0 : (0 : Int32).toInt = 0 := by decide
  have u : (1 : Int32).toInt = 1 := by decide
  have b := zbnd w
  rw [zi_lt, u0] at h
  rw [zi_lt, zsub _ _ (by rw [u]; omega) (by rw [u]; omega), u] at k
  exact ⟨by omega, by omega⟩
theorem zsA_0 {n w sh mi : Int32} {c : Int} (h : ¬ zvl n w) : zsA n w sh mi c (some (pvI (-1))) := ⟨_, rfl, Or.inl ⟨h, rfl⟩⟩
theorem zsA_1 {n w sh mi : Int32} {c : Int} (h : zvl n w) (k : ¬ sh = 0 ∨ 9999 < mi.toInt + c) : zsA n w sh mi c (some (pvI (-3))) := ⟨_, rfl, Or.inr ⟨h, Or.inl ⟨k, rfl⟩⟩⟩
theorem zsA_2 {n w sh mi x : Int32} {c : Int} (h : zvl n w) (k : sh = 0) (l : mi.toInt + c ≤ 9999) (e : x.toInt = c) : zsA n w sh mi c (some (pvI x)) := ⟨_, rfl, Or.inr ⟨h, Or.inr ⟨k, l, e⟩⟩⟩
theorem zsA_v {n w sh mi v : Int32} {c : Int} (h : zsA n w sh mi c (some (pvI v))) (k : 0 ≤ v.toInt) : zvl n w := by
  obtain ⟨x, ex, h⟩ := h
  have ex := zpI ex
  subst ex
  rcases h with ⟨_, h2⟩ | ⟨h1, _⟩
  · rw [h2] at k; exact absurd k (by decide)
  · exact h1
theorem zpA_0 {n w sh : Int32} (h : ¬ zvl n w) : zpA n w sh (some (pvI (-1))) := ⟨_, rfl, Or.inl ⟨h, rfl⟩⟩
theorem zpA_1 {n w sh x : Int32} (h : zvl n w) (e : x = sh) : zpA n w sh (some (pvI x)) := ⟨_, rfl, Or.inr ⟨h, e⟩⟩
theorem zone1 {x : Int32} (h : 1 ≤ x.toInt ∧ x.toInt ≤ 1) : 1 = x := (zi_eq _ _).mpr (by have u : (1 : Int32).toInt = 1 := (by decide); omega)
theorem zfpn {L : List (Nat × Nat × Nat)} {k : Nat} {n1 : Int32} (h : 0 ≤ n1.toInt ∧ n1.toInt ≤ 6) (hx : ((List.range 7).all fun i => !pvfp L (60 + i) k) = true) : pvfp L (pvbs 10 + Int32.toNatClampNeg n1) k = false := by
  have e := ztn n1 h.1
  have := List.all_eq_true.mp hx (Int32.toNatClampNeg n1) (List.mem_range.mpr (by omega))
  have u : pvbs 10 = 60 := rfl
  rw [u]
  simpa using this
theorem zfr5 {L : List (Nat × Nat × Nat)} {M X : pvM} (hf : pvFr (pvfp L) M X) (hx : ((List.range 7).all fun i => !pvfp L (60 + i) 5) = true) : ∀ i : Nat, i < 7 → X.1 (60 + i) 5 = M.1 (60 + i) 5 := fun i hi => hf _ _ (by simpa using List.all_eq_true.mp hx i (List.mem_range.mpr hi))
theorem zVu5 {n1 v : Int32} {M G A X : pvM} (e : A = pvu G (pvbs 10 + Int32.toNatClampNeg n1) 5 v) (hX : ∀ i : Nat, i < 7 → X.1 (60 + i) 5 = A.1 (60 + i) 5) (hG : ∀ i : Nat, i < 7 → G.1 (60 + i) 5 = M.1 (60 + i) 5) : ∀ i : Nat, i < 7 → X.1 (60 + i) 5 = if i = Int32.toNatClampNeg n1 then v else M.1 (60 + i) 5 := fun i hi => by
  have u : pvbs 10 = 60 := rfl
  rw [hX i hi]
  by_cases c : i = Int32.toNatClampNeg n1
  · rw [if_pos c, c, ← u]; exact pvu_s e
  · rw [if_neg c, pvu_n e (60 + i) 5 (Or.inl (by omega)), hG i hi]
theorem zVu1 {n1 v w : Int32} {M G A X : pvM} (e : A = pvu G 131 (Int32.toNatClampNeg n1) w) (hv : w = v) (hX : ∀ i : Nat, X.1 131 i = A.1 131 i) (hG : ∀ i : Nat, G.1 131 i = M.1 131 i) : ∀ i : Nat, i < 7 → X.1 131 i = if i = Int32.toNatClampNeg n1 then v else M.1 131 i := fun i _ => by
  rw [hX i]
  by_cases c : i = Int32.toNatClampNeg n1
  · rw [if_pos c, c, ← hv]; exact pvu_s e
  · rw [if_neg c, pvu_n e 131 i (Or.inr c), hG i]
/-- copied: what is SHUT -/
def zC5 (a b : Nat) (n : Int32) (M X : pvM) : Prop := ∀ i : Nat, i < 7 → (i : Int) < n.toInt → X.1 (a + i) 5 = M.1 (b + i) 5
/-! shut, put of both sides -/
def zcS9 (n1 : Int32) (M : pvM) : Int := zWy (Int32.toInt (M.1 (pvhp (M.1 8 8)) 0)) (Int32.toInt (M.1 (pvbs 10 + Int32.toNatClampNeg n1) 2)) (Int32.toInt (M.1 (pvbs 10 + Int32.toNatClampNeg n1) 3)) (Int32.toInt (M.1 8 6)) (Int32.toInt (M.1 8 7)) + zTm (M.1 (pvbs 10 + Int32.toNatClampNeg n1) 0) (M.1 (pvbs 10 + Int32.toNatClampNeg n1) 4)
def zcS0 (n1 : Int32) (M : pvM) : Int := zWy (Int32.toInt (zlO M 2 2)) (Int32.toInt (M.1 127 (Int32.toNatClampNeg n1))) (Int32.toInt (M.1 128 (Int32.toNatClampNeg n1))) (Int32.toInt (M.1 124 5)) (Int32.toInt (M.1 124 6)) + zTm (M.1 125 (Int32.toNatClampNeg n1)) (M.1 129 (Int32.toNatClampNeg n1))
def zST9 (n1 : Int32) (r : Option pvV) (M X : pvM) : Prop := zwT n1 (M.1 (pvbs 10 + Int32.toNatClampNeg n1) 2) (M.1 (pvbs 10 + Int32.toNatClampNeg n1) 3) r (zw9 8 60 M) (zw9 8 60 X) ∧ zsA n1 (M.1 8 1) (M.1 (pvbs 10 + Int32.toNatClampNeg n1) 5) (M.1 8 4) (zcS9 n1 M) r
def zST0 (n1 : Int32) (r : Option pvV) (M X : pvM) : Prop := zwT n1 (M.1 127 (Int32.toNatClampNeg n1)) (M.1 128 (Int32.toNatClampNeg n1)) r (zw0 1 5 6 131 M) (zw0 1 5 6 131 X) ∧ zsA n1 (M.1 124 0) (M.1 131 (Int32.toNatClampNeg n1)) (M.1 124 1) (zcS0 n1 M) r
def zPT9 (n1 n2 : Int32) (r : Option pvV) (M X : pvM) : Prop := zwP n1 n2 (M.1 8 1) (zw9 8 60 M) (zw9 8 60 X) ∧ zpA n1 (M.1 8 1) (M.1 (pvbs 10 + Int32.toNatClampNeg n1) 5) r
def zPT0 (n1 n2 : Int32) (r : Option pvV) (M X : pvM) : Prop := zwP n1 n2 (M.1 124 0) (zw0 1 5 6 131 M) (zw0 1 5 6 131 X) ∧ zpA n1 (M.1 124 0) (M.1 131 (Int32.toNatClampNeg n1)) r
theorem zlO_k {M X : pvM} (h : zKh0 M X) (w d : Int32) : zlO X w d = zlO M w d := by
  have r : ∀ a, 133 ≤ a → a < 139 → X.1 a = M.1 a := fun a h1 h2 => funext fun c => h.2.2.2 a c h1 h2
  have e : ∀ a k, zL10 X w d a k = zL10 M w d a k := by
    intro a k
    induction k with
    | zero => rfl
    | succ k ih =>
      show (if X.1 134 (a + k) = w then X.1 135 (a + k) else zL10 X w d a k) = (if M.1 134 (a + k) = w then M.1 135 (a + k) else zL10 M w d a k)
      rw [ih, r 134 (by decide) (by decide), r 135 (by decide) (by decide)]
  unfold zlO zfi
  rw [h.2.1, e, r 133 (by decide) (by decide)]
/-- where a window is, is the same, and what it takes -/
theorem zsh_e {n1 : Int32} {M Y : pvM} (hok : pvOk M) (hw : M.1 8 1 = M.1 124 0) (hP : zP1 M) (hV : zVe (M.1 8 1) (zw9 8 60 M) (zw0 1 5 6 131 M)) (hH : zHW M) (k3 : zKm 125 130 M Y) (ky : zKy0 1 5 6 131 M Y) (kh : zKh0 M Y) (hv : zvl n1 (M.1 8 1)) : (M.1 (pvbs 10 + Int32.toNatClampNeg n1) 5 = Y.1 131 (Int32.toNatClampNeg n1) ∧ M.1 8 4 = Y.1 124 1 ∧ zcS9 n1 M = zcS0 n1 Y) ∧ M.1 (pvbs 10 + Int32.toNatClampNeg n1) 2 = Y.1 127 (Int32.toNatClampNeg n1) ∧ M.1 (pvbs 10 + Int32.toNatClampNeg n1) 3 = Y.1 128 (Int32.toNatClampNeg n1) := by
  have rw8 := pvok_r hok 8 1 (lo := 0) (hi := 7) rfl
  have t := ztn n1 hv.1
  have hv2 := hv.2
  have u : pvbs 10 = 60 := rfl
  have i7 : Int32.toNatClampNeg n1 < 7 := by omega
  have p := (hP (Int32.toNatClampNeg n1) i7 (by omega)).1
  have q := (k3 (Int32.toNatClampNeg n1) i7).1
  have f : ∀ j, j < 5 → M.1 (60 + Int32.toNatClampNeg n1) j = Y.1 (125 + j) (Int32.toNatClampNeg n1) := fun j hj => (p j hj).trans (q j hj).symm
  have v : ∀ k : Nat, k < 10 → (k : Int) < (M.1 8 1).toInt + 3 → zw9 8 60 M k = zw0 1 5 6 131 Y k := fun k h1 h2 => (hV k h1 h2).trans (ky k h1).symm
  have v0 : M.1 8 4 = Y.1 124 1 := v 0 (by decide) (by omega)
  have v1 : M.1 8 6 = Y.1 124 5 := v 1 (by decide) (by omega)
  have v2 : M.1 8 7 = Y.1 124 6 := v 2 (by decide) (by omega)
  have v5 : M.1 (60 + Int32.toNatClampNeg n1) 5 = Y.1 131 (Int32.toNatClampNeg n1) := v (Int32.toNatClampNeg n1 + 3) (by omega) (by omega)
  rw [u]
  refine ⟨⟨v5, v0, ?_⟩, f 2 (by decide), f 3 (by decide)⟩
  unfold zcS9 zcS0
  rw [u, f 0 (by decide), f 2 (by decide), f 3 (by decide), f 4 (by decide), v1, v2, (zst_e hok hH).1, zlO_k kh]
/-! HOUSES: the image -/
def zKi9 (M X : pvM) : Prop := X.1 0 1 = M.1 0 1 ∧ X.1 8 8 = M.1 8 8 ∧ X.1 9 8 = M.1 8 8 ∧ ∀ a c : Nat, 15 ≤ a → a < 51 → X.1 a c = M.1 a c
def zKi0 (M X : pvM) : Prop := X.1 124 14 = M.1 124 14 ∧ X.1 124 15 = M.1 124 15 ∧ X.1 124 47 = M.1 124 15 ∧ ∀ a c : Nat, 133 ≤ a → a < 139 → X.1 a c = M.1 a c
def zKu9 (M X : pvM) : Prop := (M.1 0 5 = 0 ∧ zKh9 M X) ∨ (¬ M.1 0 5 = 0 ∧ X.1 0 1 = M.1 0 1 ∧ X.1 8 8 = M.1 9 8 ∧ X.1 9 8 = M.1 9 8 ∧ ∀ a c : Nat, 15 ≤ a → a < 51 → X.1 a c = M.1 a c)
def zKu0 (M X : pvM) : Prop := (M.1 124 46 = 0 ∧ zKh0 M X) ∨ (¬ M.1 124 46 = 0 ∧ X.1 124 14 = M.1 124 14 ∧ X.1 124 15 = M.1 124 47 ∧ X.1 124 47 = M.1 124 47 ∧ ∀ a c : Nat, 133 ≤ a → a < 139 → X.1 a c = M.1 a c)
theorem zfr36 {L : List (Nat × Nat × Nat)} {M X : pvM} (hf : pvFr (pvfp L) M X) (hx : ((List.range 36).all fun i => !pvfq L (15 + i)) = true) : ∀ a c : Nat, 15 ≤ a → a < 51 → X.1 a c = M.1 a c := fun a c h1 h2 => hf _ _ (pvfq_p (by
  have k := List.all_eq_true.mp hx (a - 15) (List.mem_range.mpr (by omega))
  rw [show 15 + (a - 15) = a by omega] at k
  simpa using k) c)
theorem zfr6 {L : List (Nat × Nat × Nat)} {M X : pvM} (hf : pvFr (pvfp L) M X) (hx : ((List.range 6).all fun i => !pvfq L (133 + i)) = true) : ∀ a c : Nat, 133 ≤ a → a < 139 → X.1 a c = M.1 a c := fun a c h1 h2 => hf _ _ (pvfq_p (by
  have k := List.all_eq_true.mp hx (a - 133) (List.mem_range.mpr (by omega))
  rw [show 133 + (a - 133) = a by omega] at k
  simpa using k) c)
def zJ9 (r : Option pvV) (M X : pvM) : Prop := zH9 r M X ∧ X.1 9 8 = M.1 9 8
def zJ0 (r : Option pvV) (M X : pvM) : Prop := zH10 r M X ∧ X.1 124 47 = M.1 124 47
theorem zHW_d {M Y X : pvM} (hok : pvOk M) (h : zHW M) (a : zKh9 M Y) (b : zKh0 M Y) (a2 : zKh9 Y X) (b2 : zKh0 Y X) : zHW X := by
  have r := pvok_r hok 0 1 (lo := 0) (hi := 6) rfl
  refine zHW_k h r.2 (a2.1.trans a.1) (fun q c h1 h2 => (a2.2.2.2 q c h1 h2).trans (a.2.2.2 q c h1 h2)) (fun q c h1 h2 => (b2.2.2.2 q c h1 h2).trans (b.2.2.2 q c h1 h2)) ?_ ?_
  · rw [a2.2.1, a.2.1, b2.2.1, b.2.1]; exact h.2.2.2.1
  · rw [a2.2.2.1, a.2.2.1, b2.2.2.1, b.2.2.1]; exact h.2.2.2.2
theorem zHW_i {M Y X : pvM} (hok : pvOk M) (h : zHW M) (a : zKi9 M Y) (b : zKh0 M Y) (a2 : zKh9 Y X) (b2 : zKi0 Y X) : zHW X := by
  have r := pvok_r hok 0 1 (lo := 0) (hi := 6) rfl
  refine zHW_k h r.2 (a2.1.trans a.1) (fun q c h1 h2 => (a2.2.2.2 q c h1 h2).trans (a.2.2.2 q c h1 h2)) (fun q c h1 h2 => (b2.2.2.2 q c h1 h2).trans (b.2.2.2 q c h1 h2)) ?_ ?_
  · rw [a2.2.1, a.2.1, b2.2.1, b.2.1]; exact h.2.2.2.1
  · rw [a2.2.2.1, a.2.2.1, b2.2.2.1, b.2.1]; exact h.2.2.2.1
theorem zHW_u {M Y X : pvM} (hok : pvOk M) (h : zHW M) (e : Y.1 124 46 = M.1 0 5) (a : zKu9 M Y) (b : zKh0 M Y) (a2 : zKh9 Y X) (b2 : zKu0 Y X) : zHW X := by
  have r := pvok_r hok 0 1 (lo := 0) (hi := 6) rfl
  unfold zKu0 at b2
  rw [e] at b2
  rcases a with ⟨c, a⟩ | ⟨c, a⟩ <;> rcases b2 with ⟨d, b2⟩ | ⟨d, b2⟩
  · exact zHW_d hok h a b a2 b2
  · exact absurd c d
  · exact absurd d c
  · refine zHW_k h r.2 (a2.1.trans a.1) (fun q c h1 h2 => (a2.2.2.2 q c h1 h2).trans (a.2.2.2 q c h1 h2)) (fun q c h1 h2 => (b2.2.2.2 q c h1 h2).trans (b.2.2.2 q c h1 h2)) ?_ ?_
    · rw [a2.2.1, a.2.1, b2.2.1, b.2.2.1]; exact h.2.2.2.2
    · rw [a2.2.2.1, a.2.2.1, b2.2.2.1, b.2.2.1]; exact h.2.2.2.2
theorem zHC_nil {M : pvM} {q : Nat} (h0 : M.1 q 0 = 2) (h1 : M.1 q 1 = 15) (h2 : M.1 q 2 = 0) (h5 : M.1 q 5 = 0) : zHC M q [] := ⟨h0, h1, by rw [h2]; rfl, by rw [h5]; rfl, fun i x k => absurd k (by simp [zcs])⟩
theorem znip {q : Nat} {x : Int32} (e : q = pvhp x) (h : 15 ≤ x.toInt ∧ x.toInt ≤ 23) : nI q = x := by
  have h1 : (q : Int) = x.toInt := by rw [e]; show ((x.toInt.toNat : Nat) : Int) = x.toInt; omega
  exact (zi_eq _ _).mpr ((nI_toInt (by omega)).trans h1)
theorem zKy9_t {a s : Nat} {M Y X : pvM} (h : zKy9 a s M Y) (k : zKy9 a s Y X) : zKy9 a s M X := fun i hi => (k i hi).trans (h i hi)
theorem zKy9_u {M X : pvM} {q c : Nat} {v : Int32} (e : X = pvu M q c v) (h : 9 ≠ q) (h2 : ∀ i : Nat, i < 7 → 74 + i ≠ q) : zKy9 9 74 M X := fun k hk => match k, hk with
  | 0, _ => pvu_n e 9 4 (Or.inl h)
  | 1, _ => pvu_n e 9 6 (Or.inl h)
  | 2, _ => pvu_n e 9 7 (Or.inl h)
  | k + 3, hk => pvu_n e (74 + k) 5 (Or.inl (h2 k (by omega)))
theorem zKy0_c {M X : pvM} (h1 : X.1 124 1 = M.1 124 1) (h5 : X.1 124 5 = M.1 124 5) (h6 : X.1 124 6 = M.1 124 6) (h : X.1 131 = M.1 131) : zKy0 1 5 6 131 M X := fun k hk => match k, hk with
  | 0, _ => h1
  | 1, _ => h5
  | 2, _ => h6
  | k + 3, _ => congrFun h k
theorem zrw2 {A B C X : pvM} {n : Nat} {v v2 : Int32} (e1 : B = pvu A 131 n v) (hc : C.1 131 = B.1 131) (e2 : X = pvu C 131 n v2) (hv : v2 = A.1 131 n) : X.1 131 = A.1 131 := funext fun i => by
  by_cases c : i = n
  · subst c; exact (pvu_s e2).trans hv
  · exact (pvu_n e2 131 i (Or.inr c)).trans ((congrFun hc i).trans (pvu_n e1 131 i (Or.inr c)))
