theorem zwl_0 {Y : pvM} (h : zLet Y) : zwl Y (Int32.toNatClampNeg 0) (Int32.toNatClampNeg 3) = [119, 101, 116, 32] := by
  show [Y.1 140 0, Y.1 140 1, Y.1 140 2, 32] = _
  rw [h 0 (by decide), h 1 (by decide), h 2 (by decide)]
  rfl
theorem zwl_3 {Y : pvM} (h : zLet Y) : zwl Y (Int32.toNatClampNeg 3) (Int32.toNatClampNeg 3) = [100, 114, 121, 32] := by
  show [Y.1 140 3, Y.1 140 4, Y.1 140 5, 32] = _
  rw [h 3 (by decide), h 4 (by decide), h 5 (by decide)]
  rfl
theorem zwl_6 {Y : pvM} (h : zLet Y) : zwl Y (Int32.toNatClampNeg 6) (Int32.toNatClampNeg 5) = [115, 116, 97, 105, 114, 32] := by
  show [Y.1 140 6, Y.1 140 7, Y.1 140 8, Y.1 140 9, Y.1 140 10, 32] = _
  rw [h 6 (by decide), h 7 (by decide), h 8 (by decide), h 9 (by decide), h 10 (by decide)]
  rfl
theorem zwl_11 {Y : pvM} (h : zLet Y) : zwl Y (Int32.toNatClampNeg 11) (Int32.toNatClampNeg 4) = [108, 97, 115, 116, 32] := by
  show [Y.1 140 11, Y.1 140 12, Y.1 140 13, Y.1 140 14, 32] = _
  rw [h 11 (by decide), h 12 (by decide), h 13 (by decide), h 14 (by decide)]
  rfl
/-- a clause's word -/
def zQh (c : Nat) (r : Option pvV) (M X : pvM) : Prop := zTv M X ∧ (∀ a b : Nat, ¬ (a = 124 ∧ (b = 17 ∨ b = 18)) → a ≠ 134 → X.1 a b = M.1 a b) ∧ ∃ b : Bool, r = some (pvI (bif b then 1 else 0)) ∧ match zhw (zs10 M (zP10 M)) with
  | none => b = false ∧ zP10 X = zP10 M
  | some (w, l) => zwd (zs10 M) l (zP10 M) = (b, zP10 X) ∧ X.1 134 c = nI w
theorem zQh_c {c w : Nat} {x : Int32} {l l' : List Int32} {M Y X : pvM} (hc : zhw (zs10 M (zP10 M)) = some (w, l)) (e : Y = pvu M 134 c (nI w)) (d : zQb (zTw l') (some (pvI x)) Y X) (hl : l' = l) : zQh c (some (pvI x)) M X := by
  subst hl
  obtain ⟨a1, a2, b, a3, a4⟩ := d
  have f : ∀ a b : Nat, a ≠ 134 → Y.1 a b = M.1 a b := fun a b z => pvu_n e a b (Or.inl z)
  have ts : zTv M Y := ⟨f 124 16 (by decide), fun i => f 132 i (by decide), fun z => by rw [f 124 17 (by decide), f 124 16 (by decide)]; exact z⟩
  have p : zP10 Y = zP10 M := by unfold zP10; rw [f 124 17 (by decide)]
  refine ⟨zTs_t ts a2, fun a b h1 h2 => (a1 a b h1).trans (f a b h2), b, a3, ?_⟩
  rw [hc]
  unfold zTw at a4
  rw [zTs_s ts, p] at a4
  exact ⟨a4, (a1 134 c (by omega)).trans (pvu_s e)⟩
theorem zQh_d {c : Nat} {x : Int32} {l' : List Int32} {M Y X : pvM} (hc : zhw (zs10 M (zP10 M)) = none) (h1 : ¬ zs10 M (zP10 M) = 108) (e : Y = pvu M 134 c (nI 3)) (d : zQb (zTw l') (some (pvI x)) Y X) (hl : l' = [108, 97, 115, 116, 32]) : zQh c (some (pvI x)) M X := by
  subst hl
  obtain ⟨a1, a2, b, a3, a4⟩ := d
  have f : ∀ a b : Nat, a ≠ 134 → Y.1 a b = M.1 a b := fun a b z => pvu_n e a b (Or.inl z)
  have ts : zTv M Y := ⟨f 124 16 (by decide), fun i => f 132 i (by decide), fun z => by rw [f 124 17 (by decide), f 124 16 (by decide)]; exact z⟩
  have p : zP10 Y = zP10 M := by unfold zP10; rw [f 124 17 (by decide)]
  refine ⟨zTs_t ts a2, fun a b h1 h2 => (a1 a b h1).trans (f a b h2), b, a3, ?_⟩
  rw [hc]
  unfold zTw at a4
  rw [zTs_s ts, p] at a4
  have a4 : (if zs10 M (zP10 M) = 108 then zwd (zs10 M) [97, 115, 116, 32] (zP10 M + 1) else (false, zP10 M)) = (b, zP10 X) := a4
  rw [if_neg h1] at a4
  exact ⟨(Prod.mk.inj a4).1.symm, (Prod.mk.inj a4).2.symm⟩
theorem zhw_n {c : Int32} (h1 : ¬ c = 119) (h2 : ¬ c = 100) (h3 : ¬ c = 115) : (c = 108 → zhw c = some (3, [108, 97, 115, 116, 32])) ∧ (¬ c = 108 → zhw c = none) := by
  unfold zhw
  rw [if_neg h1, if_neg h2, if_neg h3]
  exact ⟨fun z => if_pos z, fun z => if_neg z⟩
theorem zQh_o {c : Nat} {x : Int32} {l' : List Int32} {M Y X : pvM} (h1 : ¬ zs10 M (zP10 M) = 119) (h2 : ¬ zs10 M (zP10 M) = 100) (h3 : ¬ zs10 M (zP10 M) = 115) (e : Y = pvu M 134 c 3) (d : zQb (zTw l') (some (pvI x)) Y X) (hl : l' = [108, 97, 115, 116, 32]) : zQh c (some (pvI x)) M X := by
  by_cases k : zs10 M (zP10 M) = 108
  · exact zQh_c ((zhw_n h1 h2 h3).1 k) e d hl
  · exact zQh_d ((zhw_n h1 h2 h3).2 k) k e d hl
/-! what waits and what is laid -/
def zCW (B Y : pvM) (w o : List Int32) : Prop := 0 ≤ (B.1 124 27).toInt ∧ (Y.1 124 28).toInt = (w.length : Int) ∧ (∀ i : Nat, i < w.length → Y.1 139 (w.length - 1 - i) = w.getD i 0) ∧ (Y.1 124 29).toInt = (zopn w : Int) ∧ (∀ a : Int32, a ∈ w → a = 33 ∨ a = 40 ∨ a = 38 ∨ a = 124) ∧ (Y.1 124 27).toInt = (B.1 124 27).toInt + o.length ∧ ∀ i : Nat, i < o.length → Y.1 138 (Int32.toNatClampNeg (B.1 124 27) + i) = o.getD i 0
theorem zCW_k {B Y X : pvM} {w o : List Int32} (h : zCW B Y w o) (h27 : X.1 124 27 = Y.1 124 27) (h28 : X.1 124 28 = Y.1 124 28) (h29 : X.1 124 29 = Y.1 124 29) (h138 : ∀ i : Nat, X.1 138 i = Y.1 138 i) (h139 : ∀ i : Nat, X.1 139 i = Y.1 139 i) : zCW B X w o := by
  obtain ⟨a0, a1, a2, a3, a4, a5, a6⟩ := h
  exact ⟨a0, by rw [h28]; exact a1, fun i z => (h139 _).trans (a2 i z), by rw [h29]; exact a3, a4, by rw [h27]; exact a5, fun i z => (h138 _).trans (a6 i z)⟩
theorem zCW_top {B Y : pvM} {w o : List Int32} (h : zCW B Y w o) (hw : 0 < (Y.1 124 28).toInt) : ∃ (a : Int32) (w' : List Int32), w = a :: w' ∧ Y.1 139 (Int32.toNatClampNeg (Y.1 124 28 - 1)) = a ∧ Int32.toNatClampNeg (Y.1 124 28 - 1) = w'.length ∧ (Y.1 124 28 - 1).toInt = (w'.length : Int) := by
  obtain ⟨a0, a1, a2, a3, a4, a5, a6⟩ := h
  cases w with
  | nil => rw [a1] at hw; exact absurd hw (by decide)
  | cons a w' =>
    rw [List.length_cons] at a1
    have u1 : (1 : Int32).toInt = 1 := by decide
    have b := zbnd (Y.1 124 28)
    have e : (Y.1 124 28 - 1).toInt = (w'.length : Int) := by rw [zsub _ _ (by rw [u1]; omega) (by rw [u1]; omega), u1]; omega
    have e2 := znat e
    refine ⟨a, w', rfl, ?_, e2, e⟩
    rw [e2]
    exact a2 0 (by rw [List.length_cons]; omega)
theorem zCW_pop {B Y : pvM} {a : Int32} {w o : List Int32} (h : zCW B Y (a :: w) o) : ∀ i : Nat, i < w.length → Y.1 139 (w.length - 1 - i) = w.getD i 0 := by
  intro i hi
  have := h.2.2.1 (i + 1) (by rw [List.length_cons]; omega)
  rw [List.length_cons, show w.length + 1 - 1 - (i + 1) = w.length - 1 - i by omega] at this
  exact this
/-- a step is laid -/
theorem zCW_e {B Y X : pvM} {w o : List Int32} {v : Int32} (h : zCW B Y w o) (hs : (Y.1 124 27).toInt ≤ 599) (d : X = zpe Y v) : zCW B X w (o ++ [v]) := by
  obtain ⟨a0, a1, a2, a3, a4, a5, a6⟩ := h
  obtain ⟨c1, c2, c3, c4, c5⟩ := zpe_c d
  have e1 : X = pvu (pvu Y 138 (Int32.toNatClampNeg (Y.1 124 27)) v) 124 27 (Y.1 124 27 + 1) := d
  have c6 : X.1 124 29 = Y.1 124 29 := (pvu_n e1 124 29 (Or.inr (by decide))).trans (pvu_n (M := Y) rfl 124 29 (Or.inl (by decide)))
  have t0 := ztn _ a0
  have t1 := ztn (Y.1 124 27) (by omega)
  refine ⟨a0, by rw [c4]; exact a1, fun i z => by rw [c3]; exact a2 i z, by rw [c6]; exact a3, a4, by rw [c1, zadd_1 _ (by omega), a5, List.length_append]; show _ + 1 = _ + ((o.length + 1 : Nat) : Int); omega, fun i hi => ?_⟩
  rw [List.length_append] at hi
  have hi : i < o.length + 1 := hi
  rw [c2]
  by_cases c : i < o.length
  · rw [zupd_n _ _ _ (by omega), a6 i c, List.getD_eq_getElem?_getD, List.getD_eq_getElem?_getD, List.getElem?_append_left c]
  · have e : i = o.length := by omega
    subst e
    rw [show Int32.toNatClampNeg (B.1 124 27) + o.length = Int32.toNatClampNeg (Y.1 124 27) by omega, zupd_s, List.getD_eq_getElem?_getD, List.getElem?_append_right (Nat.le_refl _), Nat.sub_self]
    rfl
/-! whole -/
def zWl (M Y : pvM) : Prop := ∀ (B : pvM) (w o : List Int32), zCW B M w o → ∃ w' o' : List Int32, zCW B Y w' o' ∧ zwh w o = zwh w' o'
def zWe (M X : pvM) : Prop := ∀ (B : pvM) (w o : List Int32), zCW B M w o → zCW B X (zwh w o).1 (zwh w o).2
theorem zWl_0 (M : pvM) : zWl M M := fun _ w o h => ⟨w, o, h, rfl⟩
theorem zWl_s {M Y X1 X2 X3 : pvM} (h : zWl M Y) (hs : (Y.1 124 27).toInt ≤ 599) (hw : 0 < (Y.1 124 28).toInt) (ht : Y.1 139 (Int32.toNatClampNeg (Y.1 124 28 - 1)) = 33) (d1 : X1 = zpe Y (-33)) (e2 : X2 = pvu X1 124 28 (X1.1 124 28 - 1)) (e3 : X3 = pvu X2 124 29 (X2.1 124 29 - 1)) : zWl M X3 := fun B w o hB => by
  obtain ⟨w', o', h1, h2⟩ := h B w o hB
  obtain ⟨a, w2, rfl, t1, t2, t3⟩ := zCW_top h1 hw
  have ha : a = 33 := t1.symm.trans ht
  subst ha
  have k := zCW_e h1 hs d1
  obtain ⟨c1, c2, c3, c4, c5⟩ := zpe_c d1
  refine ⟨w2, o' ++ [-33], ?_, h2.trans (if_pos rfl)⟩
  have p := zCW_pop k
  obtain ⟨a0, a1, a2, a3, a4, a5, a6⟩ := k
  have u1 : (1 : Int32).toInt = 1 := by decide
  have z29 : (X2.1 124 29).toInt = 1 + (zopn w2 : Int) := by
    rw [pvu_n e2 124 29 (Or.inr (by decide)), a3]
    show ((((if (33 : Int32) = 33 ∨ (33 : Int32) = 40 then 1 else 0) + zopn w2 : Nat)) : Int) = _
    rw [if_pos (Or.inl rfl)]
    omega
  have b := zbnd (X2.1 124 29)
  refine ⟨a0, ?_, fun i z => ?_, ?_, fun x hx => a4 x (List.mem_cons_of_mem _ hx), ?_, fun i z => ?_⟩
  · rw [pvu_n e3 124 28 (Or.inr (by decide)), pvu_s e2, c4]; exact t3
  · rw [pvu_n e3 139 _ (Or.inl (by decide)), pvu_n e2 139 _ (Or.inl (by decide))]; exact p i z
  · rw [pvu_s e3, zsub _ _ (by rw [u1]; omega) (by rw [u1]; omega), u1, z29]; omega
  · rw [pvu_n e3 124 27 (Or.inr (by decide)), pvu_n e2 124 27 (Or.inr (by decide))]; exact a5
  · rw [pvu_n e3 138 _ (Or.inl (by decide)), pvu_n e2 138 _ (Or.inl (by decide))]; exact a6 i z
theorem zWl_e {M Y : pvM} (h : zWl M Y) (c : (Y.1 124 28).toInt ≤ 0 ∨ ¬ Y.1 139 (Int32.toNatClampNeg (Y.1 124 28 - 1)) = 33) : zWe M Y := fun B w o hB => by
  obtain ⟨w', o', h1, h2⟩ := h B w o hB
  have e : zwh w' o' = (w', o') := by
    cases w' with
    | nil => rfl
    | cons a w2 =>
      have l : 0 < (Y.1 124 28).toInt := by rw [h1.2.1, List.length_cons]; omega
      obtain ⟨a', w3, e, t1, t2, t3⟩ := zCW_top h1 l
      have e1 : a = a' := (List.cons.inj e).1
      refine if_neg (fun z => ?_)
      rcases c with c | c
      · omega
      · exact c (by rw [t1, ← e1, z])
  rw [h2, e]
  exact h1
/-! settle -/
def zSl (n : Int32) (M Y : pvM) : Prop := ∀ (B : pvM) (w o : List Int32), zCW B M w o → ∃ w' o' : List Int32, zCW B Y w' o' ∧ zse n w o = zse n w' o'
def zSe (n : Int32) (M X : pvM) : Prop := ∀ (B : pvM) (w o : List Int32), zCW B M w o → zCW B X (zse n w o).1 (zse n w o).2
theorem zSl_0 (n : Int32) (M : pvM) : zSl n M M := fun _ w o h => ⟨w, o, h, rfl⟩
theorem zSl_s {n : Int32} {M Y X1 X2 : pvM} (h : zSl n M Y) (hs : (Y.1 124 27).toInt ≤ 599) (hw : 0 < (Y.1 124 28).toInt) (ht : Y.1 139 (Int32.toNatClampNeg (Y.1 124 28 - 1)) = 38 ∨ (Y.1 139 (Int32.toNatClampNeg (Y.1 124 28 - 1)) = 124 ∧ ¬ n = 38)) (e1 : X1 = pvu Y 124 28 (Y.1 124 28 - 1)) (d2 : X2 = zpe X1 (-(X1.1 139 (Int32.toNatClampNeg (X1.1 124 28))))) : zSl n M X2 := fun B w o hB => by
  obtain ⟨w', o', h1, h2⟩ := h B w o hB
  obtain ⟨a, w2, rfl, t1, t2, t3⟩ := zCW_top h1 hw
  rw [t1] at ht
  have p := zCW_pop h1
  obtain ⟨a0, a1, a2, a3, a4, a5, a6⟩ := h1
  have n33 : ¬ (a = 33 ∨ a = 40) := by
    rcases ht with rfl | ⟨rfl, _⟩ <;> decide
  have k : zCW B X1 w2 o' := by
    refine ⟨a0, by rw [pvu_s e1]; exact t3, fun i z => by rw [pvu_n e1 139 _ (Or.inl (by decide))]; exact p i z, ?_, fun x hx => a4 x (List.mem_cons_of_mem _ hx), by rw [pvu_n e1 124 27 (Or.inr (by decide))]; exact a5, fun i z => by rw [pvu_n e1 138 _ (Or.inl (by decide))]; exact a6 i z⟩
    rw [pvu_n e1 124 29 (Or.inr (by decide)), a3]
    show ((((if a = 33 ∨ a = 40 then 1 else 0) + zopn w2 : Nat)) : Int) = _
    rw [if_neg n33, Nat.zero_add]
  have ev : X1.1 139 (Int32.toNatClampNeg (X1.1 124 28)) = a := by
    rw [pvu_s e1, pvu_n e1 139 _ (Or.inl (by decide)), t1]
  rw [ev] at d2
  exact ⟨w2, o' ++ [-a], zCW_e k (by rw [pvu_n e1 124 27 (Or.inr (by decide))]; exact hs) d2, h2.trans (if_pos ht)⟩
theorem zSl_e {n : Int32} {M Y : pvM} (h : zSl n M Y) (c : (Y.1 124 28).toInt ≤ 0 ∨ ¬ (Y.1 139 (Int32.toNatClampNeg (Y.1 124 28 - 1)) = 38 ∨ (Y.1 139 (Int32.toNatClampNeg (Y.1 124 28 - 1)) = 124 ∧ ¬ n = 38))) : zSe n M Y := fun B w o hB => by
  obtain ⟨w', o', h1, h2⟩ := h B w o hB
  have e : zse n w' o' = (w', o') := by
    cases w' with
    | nil => rfl
    | cons a w2 =>
      have l : 0 < (Y.1 124 28).toInt := by rw [h1.2.1, List.length_cons]; omega
      obtain ⟨a', w3, e, t1, t2, t3⟩ := zCW_top h1 l
      have e1 : a = a' := (List.cons.inj e).1
      refine if_neg (fun z => ?_)
      rcases c with c | c
      · omega
      · exact c (by rw [t1, ← e1]; exact z)
  rw [h2, e]
  exact h1
theorem zse_top {s : Int32} : ∀ {w o : List Int32} {a : Int32} {w' : List Int32}, (zse s w o).1 = a :: w' → ¬ (a = 38 ∨ (a = 124 ∧ ¬ s = 38)) ∧ (∀ x, x ∈ a :: w' → x ∈ w)
  | [], o, a, w', h => absurd h (by unfold zse; simp)
  | b :: w, o, a, w', h => by
    unfold zse at h
    split at h
    · next c =>
      obtain ⟨k1, k2⟩ := zse_top h
      exact ⟨k1, fun x hx => List.mem_cons_of_mem _ (k2 x hx)⟩
    · next c =>
      have e : b = a ∧ w = w' := List.cons.inj h
      rw [e.1] at c
      exact ⟨c, fun x hx => by rw [e.1, e.2]; exact hx⟩
/-! a test -/
def zQt (r : Option pvV) (M X : pvM) : Prop := zTv M X ∧ ∃ b : Bool, r = some (pvI (bif b then 1 else 0)) ∧ ztst (zs10 M) (zP10 M) = (b, zP10 X) ∧ ∀ (B : pvM) (w o : List Int32), zCW B M w o → if b = true then zCW B X (zwh w (o ++ [zk10 (zs10 M) (zP10 M)])).1 (zwh w (o ++ [zk10 (zs10 M) (zP10 M)])).2 else zCW B X w o
theorem zCW_r {B M X : pvM} {w o : List Int32} (h : zCW B M w o) (k : zKr M X) : zCW B X w o := zCW_k h (k 124 27 (by decide)) (k 124 28 (by decide)) (k 124 29 (by decide)) (fun i => k 138 i (by omega)) (fun i => k 139 i (by omega))
theorem zQt_1 {x c : Int32} {M : pvM} (hc : zs10 M (zP10 M) = c) (hx : x = zlf c) (h : x.toInt < 0) : zQt (some (pvI 0)) M M := by
  refine ⟨zTv_r M, false, rfl, ?_, fun B w o k => by rw [if_neg Bool.false_ne_true]; exact k⟩
  unfold ztst
  rw [hx, zlf_s] at h
  rw [hc, if_neg (fun z => z h)]
theorem zlf_p {x c : Int32} (hx : x = zlf c) (h : 0 ≤ x.toInt) : ¬ zlf c = -1 := fun z => by
  rw [hx, z] at h
  exact absurd h (by decide)
theorem zQt_2 {x c c2 : Int32} {M M1 : pvM} (hok : pvOk M) (hc : zs10 M (zP10 M) = c) (hx : x = zlf c) (h : 0 ≤ x.toInt) (ht : ¬ M.1 124 16 ≤ M.1 124 17) (e1 : M1 = pvu M 124 17 (M.1 124 17 + 1)) (hc2 : zs10 M1 (zP10 M1) = c2) (hs : c2 < 60 ∨ 62 < c2) : zQt (some (pvI 0)) M M1 := by
  obtain ⟨b1, b2⟩ := zat_1 hok ht (pvu_s e1)
  have k := zKr_u e1 (Or.inl rfl)
  have ts := zKr_T k (fun _ => b2)
  refine ⟨ts, false, rfl, ?_, fun B w o z => by rw [if_neg Bool.false_ne_true]; exact zCW_r z k⟩
  rw [zTs_s ts, b1] at hc2
  have n : ¬ zsg c2 = true := by
    intro z
    unfold zsg at z
    rw [Bool.and_eq_true, decide_eq_true_eq, decide_eq_true_eq, zi_le, zi_le] at z
    rw [zi_lt, zi_lt] at hs
    omega
  unfold ztst
  rw [hc, if_pos (zlf_p hx h), hc2, if_neg n, b1]
theorem zsg_p {c : Int32} (h1 : ¬ c < 60) (h2 : ¬ 62 < c) : zsg c = true := by
  unfold zsg
  rw [Bool.and_eq_true, decide_eq_true_eq, decide_eq_true_eq, zi_le, zi_le]
  rw [zi_lt] at h1 h2
  omega
theorem zQt_m {x c c2 : Int32} {M M1 M2 : pvM} (hok : pvOk M) (hok1 : pvOk M1) (hc : zs10 M (zP10 M) = c) (hx : x = zlf c) (h : 0 ≤ x.toInt) (ht : ¬ M.1 124 16 ≤ M.1 124 17) (e1 : M1 = pvu M 124 17 (M.1 124 17 + 1)) (hc2 : zs10 M1 (zP10 M1) = c2) (h1 : ¬ c2 < 60) (h2 : ¬ 62 < c2) (ht1 : ¬ M1.1 124 16 ≤ M1.1 124 17) (e2 : M2 = pvu M1 124 17 (M1.1 124 17 + 1)) : zKr M M2 ∧ zTv M M2 ∧ zP10 M2 = zP10 M + 2 ∧ ¬ zlf (zs10 M (zP10 M)) = -1 ∧ zs10 M (zP10 M + 1) = c2 ∧ zsg (zs10 M (zP10 M + 1)) = true := by
  obtain ⟨b1, b2⟩ := zat_1 hok ht (pvu_s e1)
  obtain ⟨b3, b4⟩ := zat_1 hok1 ht1 (pvu_s e2)
  have k := zKr_u e1 (Or.inl rfl)
  have ts := zKr_T k (fun _ => b2)
  have k2 := zKr_u e2 (Or.inl rfl)
  have ts2 := zKr_T k2 (fun _ => b4)
  rw [zTs_s ts, b1] at hc2
  exact ⟨zKr_t k k2, zTs_t ts ts2, by omega, by rw [hc]; exact zlf_p hx h, hc2, by rw [hc2]; exact zsg_p h1 h2⟩
theorem zQn_c {x : Int32} {M X : pvM} (h : zQn (some (pvI x)) M X) : zKr M X ∧ zTv M X ∧ zP10 X = (znu (zs10 M) (zP10 M)).2.1 ∧ (x = 0 → (znu (zs10 M) (zP10 M)).1 = false) ∧ (¬ x = 0 → (znu (zs10 M) (zP10 M)).1 = true ∧ X.1 124 18 = (znu (zs10 M) (zP10 M)).2.2) := by
  obtain ⟨a, b, t, e, k1, k2, k3⟩ := h
  have e : x = bif t then 1 else 0 := Sum.inl.inj (Option.some.inj e)
  refine ⟨a, b, k2, fun z => ?_, fun z => ?_⟩
  · cases t
    · exact k1.symm
    · rw [z] at e; exact absurd e (by decide)
  · cases t
    · exact absurd e z
    · exact ⟨k1.symm, k3 rfl⟩
theorem zQt_3 {x c c2 y : Int32} {M M1 M2 X : pvM} (hok : pvOk M) (hok1 : pvOk M1) (hc : zs10 M (zP10 M) = c) (hx : x = zlf c) (h : 0 ≤ x.toInt) (ht : ¬ M.1 124 16 ≤ M.1 124 17) (e1 : M1 = pvu M 124 17 (M.1 124 17 + 1)) (hc2 : zs10 M1 (zP10 M1) = c2) (h1 : ¬ c2 < 60) (h2 : ¬ 62 < c2) (ht1 : ¬ M1.1 124 16 ≤ M1.1 124 17) (e2 : M2 = pvu M1 124 17 (M1.1 124 17 + 1)) (d : zQn (some (pvI y)) M2 X) (hy : y = 0) : zQt (some (pvI 0)) M X := by
  obtain ⟨k1, k2, k3, k4, k5, k6⟩ := zQt_m hok hok1 hc hx h ht e1 hc2 h1 h2 ht1 e2
  obtain ⟨g1, g2, g3, g4, g5⟩ := zQn_c d
  have g4 := g4 hy
  rw [zTs_s k2, k3] at g3 g4
  refine ⟨zTs_t k2 g2, false, rfl, ?_, fun B w o z => by rw [if_neg Bool.false_ne_true]; exact zCW_r z (zKr_t k1 g1)⟩
  unfold ztst
  rw [if_pos k4, if_pos k6, g4, g3]
theorem zQt_4 {x c c2 y : Int32} {M M1 M2 X E Z : pvM} (hok : pvOk M) (hok1 : pvOk M1) (hc : zs10 M (zP10 M) = c) (hx : x = zlf c) (h : 0 ≤ x.toInt) (ht : ¬ M.1 124 16 ≤ M.1 124 17) (e1 : M1 = pvu M 124 17 (M.1 124 17 + 1)) (hc2 : zs10 M1 (zP10 M1) = c2) (h1 : ¬ c2 < 60) (h2 : ¬ 62 < c2) (ht1 : ¬ M1.1 124 16 ≤ M1.1 124 17) (e2 : M2 = pvu M1 124 17 (M1.1 124 17 + 1)) (d : zQn (some (pvI y)) M2 X) (hy : ¬ y = 0) (hs : (X.1 124 27).toInt ≤ 599) (d2 : E = zpe X (((1000 * x) + (100 * (c2 - 60))) + X.1 124 18)) (d3 : zWe E Z) (tz : zTv E Z) (z17 : Z.1 124 17 = E.1 124 17) : zQt (some (pvI 1)) M Z := by
  obtain ⟨k1, k2, k3, k4, k5, k6⟩ := zQt_m hok hok1 hc hx h ht e1 hc2 h1 h2 ht1 e2
  obtain ⟨g1, g2, g3, g4, g5⟩ := zQn_c d
  obtain ⟨g5, g6⟩ := g5 hy
  rw [zTs_s k2, k3] at g3 g5 g6
  have f := fun a b h1 h2 => (pvu_n (show E = pvu (pvu X 138 (Int32.toNatClampNeg (X.1 124 27)) _) 124 27 (X.1 124 27 + 1) from d2) a b h1).trans (pvu_n (M := X) rfl a b h2)
  have f17 : E.1 124 17 = X.1 124 17 := f 124 17 (Or.inr (by decide)) (Or.inl (by decide))
  have te : zTv X E := ⟨f 124 16 (Or.inr (by decide)) (Or.inl (by decide)), fun i => f 132 i (Or.inl (by decide)) (Or.inl (by decide)), fun z => by rw [f17, f 124 16 (Or.inr (by decide)) (Or.inl (by decide))]; exact z⟩
  have p : zP10 Z = zP10 X := by unfold zP10; rw [z17, f17]
  refine ⟨zTs_t (zTs_t k2 g2) (zTs_t te tz), true, rfl, ?_, fun B w o z => ?_⟩
  · unfold ztst
    rw [if_pos k4, if_pos k6, g5, p, g3]
  · rw [if_pos rfl]
    refine d3 B w _ ?_
    have e : ((1000 * x) + (100 * (c2 - 60))) + X.1 124 18 = zk10 (zs10 M) (zP10 M) := by
      unfold zk10
      rw [hx, hc, k5, g6]
    rw [e] at d2
    exact zCW_e (zCW_r z (zKr_t k1 g1)) hs d2
/-! an E of the reference's reader -/
theorem zTs_f {L : List (Nat × Nat × Nat)} {M X : pvM} (hf : pvFr (pvfp L) M X) (h16 : pvfp L 124 16 = false) (h17 : pvfp L 124 17 = false) (h132 : pvfq L 132 = false) : zTv M X ∧ X.1 124 17 = M.1 124 17 := ⟨⟨hf _ _ h16, fun i => hf _ _ (pvfq_p h132 i), fun z => by rw [hf _ _ h16, hf _ _ h17]; exact z⟩, hf _ _ h17⟩
def zEv (M Y : pvM) (t : Int32) : Prop := zTv M Y ∧ ∃ w o : List Int32, zyR (zs10 M) (0, [], zP10 M, []) ((if t = 0 then 1 else 0), w, zP10 Y, o) ∧ zCW M Y w o
theorem zopn_le : ∀ w : List Int32, zopn w ≤ w.length
  | [] => Nat.le_refl _
  | a :: w => by
    have := zopn_le w
    show (if a = 33 ∨ a = 40 then 1 else 0) + zopn w ≤ w.length + 1
    split <;> omega
theorem zsE_c (σ : Nat → Int32) (p : Nat) (a : Int32) (w o : List Int32) : zsE σ p (a :: w) o = if σ p = 41 then (1, (zwh w o).1, p + 1, (zwh w o).2) else (3, [], p, []) := rfl
theorem zEv_0 {M A B C : pvM} {c : Nat} (hok : pvOk M) (e1 : A = pvu M 124 28 0) (e2 : B = pvu A 124 29 0) (e3 : C = pvu B 136 c (B.1 124 27)) : zEv M C 1 := by
  have f : ∀ a b, a ≠ 136 → (a ≠ 124 ∨ (b ≠ 28 ∧ b ≠ 29)) → C.1 a b = M.1 a b := fun a b h1 h2 => (pvu_n e3 a b (Or.inl h1)).trans ((pvu_n e2 a b (h2.imp id (fun z => z.2))).trans (pvu_n e1 a b (h2.imp id (fun z => z.1))))
  refine ⟨⟨f 124 16 (by decide) (by decide), fun i => f 132 i (by decide) (Or.inl (by decide)), fun z => by rw [f 124 16 (by decide) (by decide), f 124 17 (by decide) (by decide)]; exact z⟩, [], [], ?_, ?_⟩
  · rw [if_neg (by decide)]
    have p : zP10 C = zP10 M := by unfold zP10; rw [f 124 17 (by decide) (by decide)]
    rw [p]
    exact zyR_r _ _
  · refine ⟨(pvok_r hok 124 27 (lo := 0) (hi := 600) rfl).1, ?_, fun i z => absurd z (Nat.not_lt_zero _), ?_, fun a z => absurd z (by simp), ?_, fun i z => absurd z (Nat.not_lt_zero _)⟩
    · rw [pvu_n e3 124 28 (Or.inl (by decide)), pvu_n e2 124 28 (Or.inr (by decide)), pvu_s e1]; rfl
    · rw [pvu_n e3 124 29 (Or.inl (by decide)), pvu_s e2]; rfl
    · rw [f 124 27 (by decide) (by decide)]; exact (Int.add_zero _).symm
/-- something is pushed -/
theorem zCW_p {B Y X : pvM} {w o : List Int32} {c : Int32} {A : pvM} (h : zCW B Y w o) (hc : c = 33 ∨ c = 40 ∨ c = 38 ∨ c = 124) (hm : (Y.1 124 28).toInt ≤ 1000) (e2 : A = pvu Y 139 (Int32.toNatClampNeg (Y.1 124 28)) c) (x28 : X.1 124 28 = Y.1 124 28 + 1) (x29 : (X.1 124 29).toInt = (zopn (c :: w) : Int)) (x27 : X.1 124 27 = Y.1 124 27) (x138 : ∀ i : Nat, X.1 138 i = Y.1 138 i) (x139 : ∀ i : Nat, X.1 139 i = A.1 139 i) : zCW B X (c :: w) o := by
  obtain ⟨a0, a1, a2, a3, a4, a5, a6⟩ := h
  have e := znat a1
  refine ⟨a0, by rw [x28, zadd_1 _ (by omega), a1]; rfl, fun i z => ?_, x29, fun a ha => ?_, by rw [x27]; exact a5, fun i z => (x138 _).trans (a6 i z)⟩
  · rw [x139]
    rw [List.length_cons] at z ⊢
    cases i with
    | zero =>
      rw [show w.length + 1 - 1 - 0 = Int32.toNatClampNeg (Y.1 124 28) by omega]
      exact pvu_s e2
    | succ i =>
      rw [pvu_n e2 139 _ (Or.inr (by omega)), show w.length + 1 - 1 - (i + 1) = w.length - 1 - i by omega]
      exact a2 i (by omega)
  · rcases List.mem_cons.mp ha with rfl | ha
    · exact hc
    · exact a4 a ha
theorem zEv_p {M Y A B C D : pvM} {t c : Int32} (hoy : pvOk Y) (h : zEv M Y t) (ht : ¬ t = 0) (hn : ¬ Y.1 124 16 ≤ Y.1 124 17) (hc : Y.1 132 (Int32.toNatClampNeg (Y.1 124 17)) = c) (hc2 : c = 33 ∨ c = 40) (ho : ¬ Y.1 124 29 = 4) (e1 : A = pvu Y 124 29 (Y.1 124 29 + 1)) (e2 : B = pvu A 139 (Int32.toNatClampNeg (A.1 124 28)) (Y.1 132 (Int32.toNatClampNeg (Y.1 124 17)))) (e3 : C = pvu B 124 28 (B.1 124 28 + 1)) (e4 : D = pvu C 124 17 (C.1 124 17 + 1)) : zEv M D t := by
  obtain ⟨h1, w, o, h2, h3⟩ := h
  have c17 : C.1 124 17 = Y.1 124 17 := (pvu_n e3 124 17 (Or.inr (by decide))).trans ((pvu_n e2 124 17 (Or.inl (by decide))).trans (pvu_n e1 124 17 (Or.inr (by decide))))
  obtain ⟨b1, b2⟩ := zat_1 (X := D) hoy hn (by rw [pvu_s e4, c17])
  have f : ∀ a b, a ≠ 139 → (a ≠ 124 ∨ (b ≠ 28 ∧ b ≠ 29 ∧ b ≠ 17)) → D.1 a b = Y.1 a b := fun a b k1 k2 => (pvu_n e4 a b (k2.imp id (fun z => z.2.2))).trans ((pvu_n e3 a b (k2.imp id (fun z => z.1))).trans ((pvu_n e2 a b (Or.inl k1)).trans (pvu_n e1 a b (k2.imp id (fun z => z.2.1)))))
  have ts : zTv Y D := ⟨f 124 16 (by decide) (by decide), fun i => f 132 i (by decide) (Or.inl (by decide)), fun _ => by rw [f 124 16 (by decide) (by decide)]; exact b2⟩
  have rw28 := pvok_r hoy 124 28 (lo := 0) (hi := 101) rfl
  have rw29 := h3.2.2.2.1
  have no : ¬ zopn w = 4 := fun z => ho ((zi_eq _ _).mpr (by rw [rw29, z]; decide))
  rw [hc] at e2
  have a28 : A.1 124 28 = Y.1 124 28 := pvu_n e1 124 28 (Or.inr (by decide))
  rw [a28] at e2
  have hz := zbnd (Y.1 124 29)
  have r29 := zopn_le w
  have r30 := h3.2.1
  have d29 : (D.1 124 29).toInt = ((zopn (c :: w) : Nat) : Int) := by
    rw [pvu_n e4 124 29 (Or.inr (by decide)), pvu_n e3 124 29 (Or.inr (by decide)), pvu_n e2 124 29 (Or.inl (by decide)), pvu_s e1, zadd_1 _ (by omega), rw29]
    show _ = ((((if c = 33 ∨ c = 40 then 1 else 0) + zopn w : Nat)) : Int)
    rw [if_pos hc2]
    omega
  refine ⟨zTs_t h1 ts, c :: w, o, zyR_t h2 (zyR_1 ?_), ?_⟩
  · have s : zs10 M (zP10 Y) = c := by rw [← zTs_s h1, zpk_t hoy hn, hc]
    rw [if_neg ht, zst1_W]
    unfold zsW
    rw [s, if_pos hc2, if_neg no, b1]
  · refine zCW_p (A := pvu Y 139 (Int32.toNatClampNeg (Y.1 124 28)) c) h3 (by rcases hc2 with z | z <;> simp [z]) (by omega) rfl ?_ d29 (f 124 27 (by decide) (by decide)) (fun i => f 138 i (by decide) (Or.inl (by decide))) (fun i => ?_)
    · rw [pvu_n e4 124 28 (Or.inr (by decide)), pvu_s e3, pvu_n e2 124 28 (Or.inl (by decide)), a28]
    · rw [pvu_n e4 139 i (Or.inl (by decide)), pvu_n e3 139 i (Or.inl (by decide)), e2]
      unfold pvu
      rw [pvr_q, pvr_q, pvu_row e1 (by decide)]
/-- what an E ends with -/
def zQE (c : Nat) (r : Option pvV) (M X : pvM) : Prop := zTv M X ∧ ∃ (b : Bool) (L : List Int32), r = some (pvI (bif b then 1 else 0)) ∧ zyE (zs10 M) (zP10 M) b (zP10 X) L ∧ (b = true → X.1 136 c = M.1 124 27 ∧ X.1 137 c = X.1 124 27 ∧ (X.1 124 27).toInt = (M.1 124 27).toInt + L.length ∧ ∀ i : Nat, i < L.length → X.1 138 (Int32.toNatClampNeg (M.1 124 27) + i) = L.getD i 0)
theorem zQE_4 {M Y : pvM} {t c' : Int32} {c : Nat} (hoy : pvOk Y) (h : zEv M Y t) (ht : ¬ t = 0) (hn : ¬ Y.1 124 16 ≤ Y.1 124 17) (hc : Y.1 132 (Int32.toNatClampNeg (Y.1 124 17)) = c') (hc2 : c' = 33 ∨ c' = 40) (ho : Y.1 124 29 = 4) : zQE c (some (pvI 0)) M Y := by
  obtain ⟨h1, w, o, h2, h3⟩ := h
  have no : zopn w = 4 := by
    have := h3.2.2.2.1
    rw [ho] at this
    have u : (4 : Int32).toInt = 4 := by decide
    omega
  have s : zs10 M (zP10 Y) = c' := by rw [← zTs_s h1, zpk_t hoy hn, hc]
  refine ⟨h1, false, [], rfl, ?_, fun z => absurd z (by decide)⟩
  unfold zyE
  rw [if_neg Bool.false_ne_true]
  refine zyR_t h2 (zyR_1 ?_)
  rw [if_neg ht, zst1_W]
  unfold zsW
  rw [s, if_pos hc2, if_pos no]
theorem zEv_w {M Y : pvM} {t c : Int32} (h : zEv M Y t) (ht : ¬ t = 0) (hc : zs10 Y (zP10 Y) = c) (n : ¬ c = 33 ∧ ¬ c = 40) : zTv M Y ∧ ∃ w o : List Int32, zyR (zs10 M) (0, [], zP10 M, []) (if (ztst (zs10 M) (zP10 Y)).1 = true then (1, (zwh w (o ++ [zk10 (zs10 M) (zP10 Y)])).1, (ztst (zs10 M) (zP10 Y)).2, (zwh w (o ++ [zk10 (zs10 M) (zP10 Y)])).2) else (3, [], (ztst (zs10 M) (zP10 Y)).2, [])) ∧ zCW M Y w o := by
  obtain ⟨h1, w, o, h2, h3⟩ := h
  refine ⟨h1, w, o, zyR_t h2 (zyR_1 ?_), h3⟩
  rw [zTs_s h1] at hc
  rw [if_neg ht, zst1_W]
  unfold zsW
  rw [if_neg (by rw [hc]; exact fun z => z.elim n.1 n.2)]
theorem zEv_t {M Y X : pvM} {t c x : Int32} (h : zEv M Y t) (ht : ¬ t = 0) (hc : zs10 Y (zP10 Y) = c) (n : ¬ c = 33 ∧ ¬ c = 40) (d : zQt (some (pvI x)) Y X) (hx : ¬ x = 0) : zEv M X 0 := by
  obtain ⟨h1, w, o, h2, h3⟩ := zEv_w h ht hc n
  obtain ⟨a1, b, e, a2, a3⟩ := d
  have e : x = bif b then 1 else 0 := Sum.inl.inj (Option.some.inj e)
  have hb : b = true := by
    cases b
    · exact absurd e hx
    · rfl
  subst hb
  rw [zTs_s h1] at a2 a3
  rw [a2, if_pos rfl] at h2
  have a3 := a3 M w o h3
  rw [if_pos rfl] at a3
  exact ⟨zTs_t h1 a1, _, _, by rw [if_pos rfl]; exact h2, a3⟩
theorem zQE_t {M Y X : pvM} {t c x : Int32} {k : Nat} (h : zEv M Y t) (ht : ¬ t = 0) (hc : zs10 Y (zP10 Y) = c) (n : ¬ c = 33 ∧ ¬ c = 40) (d : zQt (some (pvI x)) Y X) (hx : x = 0) : zQE k (some (pvI 0)) M X := by
  obtain ⟨h1, w, o, h2, h3⟩ := zEv_w h ht hc n
  obtain ⟨a1, b, e, a2, a3⟩ := d
  have e : x = bif b then 1 else 0 := Sum.inl.inj (Option.some.inj e)
  have hb : b = false := by
    cases b
    · rfl
    · rw [hx] at e; exact absurd e (by decide)
  subst hb
  rw [zTs_s h1] at a2
  rw [a2, if_neg Bool.false_ne_true] at h2
  refine ⟨zTs_t h1 a1, false, [], rfl, ?_, fun z => absurd z (by decide)⟩
  unfold zyE
  rw [if_neg Bool.false_ne_true]
  exact h2
/-- an & or a | -/
theorem zEv_s {M Y S A B D : pvM} {t c : Int32} (hoy : pvOk Y) (hos : pvOk S) (h : zEv M Y t) (ht : t = 0) (hn : ¬ Y.1 124 16 ≤ Y.1 124 17) (hc : Y.1 132 (Int32.toNatClampNeg (Y.1 124 17)) = c) (hc2 : c = 38 ∨ c = 124) (d : zSe (Y.1 132 (Int32.toNatClampNeg (Y.1 124 17))) Y S) (ts : zTv Y S ∧ S.1 124 17 = Y.1 124 17) (e1 : A = pvu S 139 (Int32.toNatClampNeg (S.1 124 28)) (Y.1 132 (Int32.toNatClampNeg (Y.1 124 17)))) (e2 : B = pvu A 124 28 (A.1 124 28 + 1)) (e3 : D = pvu B 124 17 (B.1 124 17 + 1)) : zEv M D 1 := by
  obtain ⟨h1, w, o, h2, h3⟩ := h
  rw [hc] at d e1
  have k := d M w o h3
  have b17 : B.1 124 17 = Y.1 124 17 := ((pvu_n e2 124 17 (Or.inr (by decide))).trans (pvu_n e1 124 17 (Or.inl (by decide)))).trans ts.2
  obtain ⟨b1, b2⟩ := zat_1 (X := D) hoy hn (by rw [pvu_s e3, b17])
  have f : ∀ a b, a ≠ 139 → (a ≠ 124 ∨ (b ≠ 28 ∧ b ≠ 17)) → D.1 a b = S.1 a b := fun a b k1 k2 => (pvu_n e3 a b (k2.imp id (fun z => z.2))).trans ((pvu_n e2 a b (k2.imp id (fun z => z.1))).trans (pvu_n e1 a b (Or.inl k1)))
  have t2 : zTv Y D := ⟨(f 124 16 (by decide) (by decide)).trans ts.1.1, fun i => (f 132 i (by decide) (Or.inl (by decide))).trans (ts.1.2.1 i), fun _ => by rw [f 124 16 (by decide) (by decide), ts.1.1]; exact b2⟩
  have r28 := pvok_r hos 124 28 (lo := 0) (hi := 101) rfl
  have n33 : ¬ (c = 33 ∨ c = 40) := by rcases hc2 with z | z <;> rw [z] <;> decide
  refine ⟨zTs_t h1 t2, c :: (zse c w o).1, (zse c w o).2, zyR_t h2 (zyR_1 ?_), ?_⟩
  · have s : zs10 M (zP10 Y) = c := by rw [← zTs_s h1, zpk_t hoy hn, hc]
    rw [if_pos ht, zst1_O]
    unfold zsO
    rw [s, if_pos hc2, if_neg (by decide), b1]
  · refine zCW_p (A := A) k (by rcases hc2 with z | z <;> simp [z]) (by omega) e1 ?_ ?_ (f 124 27 (by decide) (by decide)) (fun i => f 138 i (by decide) (Or.inl (by decide))) (fun i => ?_)
    · rw [pvu_n e3 124 28 (Or.inr (by decide)), pvu_s e2, pvu_n e1 124 28 (Or.inl (by decide))]
    · rw [f 124 29 (by decide) (by decide), k.2.2.2.1]
      show _ = ((((if c = 33 ∨ c = 40 then 1 else 0) + zopn (zse c w o).1 : Nat)) : Int)
      rw [if_neg n33, Nat.zero_add]
    · rw [pvu_n e3 139 i (Or.inl (by decide)), pvu_n e2 139 i (Or.inl (by decide))]
/-- behind an operand, no & and no | -/
theorem zEv_o {M Y S A : pvM} {t c : Int32} {k : Nat} (h : zEv M Y t) (ht : t = 0) (hc : zs10 Y (zP10 Y) = c) (n : ¬ c = 38 ∧ ¬ c = 124) (d : zSe 124 Y S) (ts : zTv Y S ∧ S.1 124 17 = Y.1 124 17) (e1 : A = pvu S 137 k (S.1 124 27)) : zTv M A ∧ zP10 A = zP10 Y ∧ A.1 124 17 = Y.1 124 17 ∧ zs10 M (zP10 Y) = c ∧ ∃ w o : List Int32, zyR (zs10 M) (0, [], zP10 M, []) (zsE (zs10 M) (zP10 Y) w o) ∧ zCW M A w o ∧ ∀ a w', w = a :: w' → a = 33 ∨ a = 40 := by
  obtain ⟨h1, w, o, h2, h3⟩ := h
  have g := d M w o h3
  have f : ∀ a b, a ≠ 137 → A.1 a b = S.1 a b := fun a b z => pvu_n e1 a b (Or.inl z)
  have t2 : zTv Y A := ⟨(f 124 16 (by decide)).trans ts.1.1, fun i => (f 132 i (by decide)).trans (ts.1.2.1 i), fun z => by rw [f 124 16 (by decide), f 124 17 (by decide)]; exact ts.1.2.2 z⟩
  have a17 : A.1 124 17 = Y.1 124 17 := (f 124 17 (by decide)).trans ts.2
  rw [zTs_s h1] at hc
  refine ⟨zTs_t h1 t2, by unfold zP10; rw [a17], a17, hc, _, _, zyR_t h2 (zyR_1 ?_), zCW_k g (f 124 27 (by decide)) (f 124 28 (by decide)) (f 124 29 (by decide)) (fun i => f 138 i (by decide)) (fun i => f 139 i (by decide)), fun a w' e => ?_⟩
  · rw [if_pos ht, zst1_O]
    unfold zsO
    rw [hc, if_neg (fun z => z.elim n.1 n.2)]
  · obtain ⟨k1, k2⟩ := zse_top e
    have k3 := h3.2.2.2.2.1 a (k2 a (List.mem_cons_self ..))
    rcases k3 with z | z | z | z
    · exact Or.inl z
    · exact Or.inr z
    · exact absurd (Or.inl z) k1
    · exact absurd (Or.inr ⟨z, by decide⟩) k1
theorem zQE_y {M Y S A : pvM} {t c : Int32} {k : Nat} (h : zEv M Y t) (ht : t = 0) (hc : zs10 Y (zP10 Y) = c) (n : ¬ c = 38 ∧ ¬ c = 124) (d : zSe 124 Y S) (ts : zTv Y S ∧ S.1 124 17 = Y.1 124 17) (e1 : A = pvu S 137 k (S.1 124 27)) (hw : A.1 124 28 = 0) (hf : A.1 136 k = M.1 124 27) : zQE k (some (pvI 1)) M A := by
  obtain ⟨h1, h2, h3, h4, w, o, h5, h6, h7⟩ := zEv_o h ht hc n d ts e1
  have hl : w = [] := by
    have := h6.2.1
    rw [hw] at this
    cases w with
    | nil => rfl
    | cons a w =>
      exfalso
      have u : (0 : Int32).toInt = 0 := by decide
      rw [List.length_cons, u] at this
      omega
  subst hl
  refine ⟨h1, true, o, rfl, ?_, fun _ => ⟨hf, ?_, h6.2.2.2.2.2.1, h6.2.2.2.2.2.2⟩⟩
  · unfold zyE
    rw [if_pos rfl, h2]
    exact h5
  · rw [pvu_s e1, pvu_n e1 124 27 (Or.inl (by decide))]
theorem zEv_ne {M Y A : pvM} {w o : List Int32} (h : zCW M A w o) (hw : ¬ A.1 124 28 = 0) : ∃ (a : Int32) (w' : List Int32), w = a :: w' := by
  cases w with
  | nil => exact absurd ((zi_eq _ _).mpr (by rw [h.2.1]; rfl)) hw
  | cons a w' => exact ⟨a, w', rfl⟩
theorem zQE_n {M Y S A : pvM} {t c : Int32} {k : Nat} (h : zEv M Y t) (ht : t = 0) (hc : zs10 Y (zP10 Y) = c) (n : ¬ c = 38 ∧ ¬ c = 124) (d : zSe 124 Y S) (ts : zTv Y S ∧ S.1 124 17 = Y.1 124 17) (e1 : A = pvu S 137 k (S.1 124 27)) (hw : ¬ A.1 124 28 = 0) (h41 : ¬ c = 41) : zQE k (some (pvI 0)) M A := by
  obtain ⟨h1, h2, h3, h4, w, o, h5, h6, h7⟩ := zEv_o h ht hc n d ts e1
  obtain ⟨a, w', rfl⟩ := zEv_ne (Y := Y) h6 hw
  refine ⟨h1, false, [], rfl, ?_, fun z => absurd z (by decide)⟩
  unfold zyE
  rw [if_neg Bool.false_ne_true, h2]
  rw [zsE_c, h4, if_neg h41] at h5
  exact h5
theorem zEv_c {M Y S A B C D Z : pvM} {t : Int32} {k : Nat} (hoy : pvOk Y) (hoa : pvOk A) (h : zEv M Y t) (ht : t = 0) (hn : ¬ Y.1 124 16 ≤ Y.1 124 17) (hc : Y.1 132 (Int32.toNatClampNeg (Y.1 124 17)) = 41) (d : zSe 124 Y S) (ts : zTv Y S ∧ S.1 124 17 = Y.1 124 17) (e1 : A = pvu S 137 k (S.1 124 27)) (hw : ¬ A.1 124 28 = 0) (e2 : B = pvu A 124 28 (A.1 124 28 - 1)) (e3 : C = pvu B 124 29 (B.1 124 29 - 1)) (e4 : D = pvu C 124 17 (C.1 124 17 + 1)) (d2 : zWe D Z) (tz : zTv D Z ∧ Z.1 124 17 = D.1 124 17) : zEv M Z 0 := by
  have s : zs10 Y (zP10 Y) = 41 := (zpk_t hoy hn).trans hc
  obtain ⟨h1, h2, h3, h4, w, o, h5, h6, h7⟩ := zEv_o h ht s (by decide) d ts e1
  obtain ⟨a, w', rfl⟩ := zEv_ne (Y := Y) h6 hw
  have ha := h7 a w' rfl
  rw [zsE_c, h4, if_pos rfl] at h5
  have c17 : C.1 124 17 = Y.1 124 17 := ((pvu_n e3 124 17 (Or.inr (by decide))).trans (pvu_n e2 124 17 (Or.inr (by decide)))).trans h3
  obtain ⟨b1, b2⟩ := zat_1 (X := D) hoy hn (by rw [pvu_s e4, c17])
  have f : ∀ a b, (a ≠ 124 ∨ (b ≠ 28 ∧ b ≠ 29 ∧ b ≠ 17)) → D.1 a b = A.1 a b := fun a b k2 => (pvu_n e4 a b (k2.imp id (fun z => z.2.2))).trans ((pvu_n e3 a b (k2.imp id (fun z => z.2.1))).trans (pvu_n e2 a b (k2.imp id (fun z => z.1))))
  have td : zTv A D := ⟨f 124 16 (by decide), fun i => f 132 i (Or.inl (by decide)), fun _ => by
    rw [f 124 16 (by decide)]
    have z : A.1 124 16 = Y.1 124 16 := (pvu_n e1 124 16 (Or.inl (by decide))).trans ts.1.1
    rw [z]
    exact b2⟩
  have p := zCW_pop h6
  have k : zCW M D w' o := by
    have l : 0 < (A.1 124 28).toInt := by rw [h6.2.1, List.length_cons]; omega
    obtain ⟨a', w3, e, t1, t2, t3⟩ := zCW_top h6 l
    have ew : w' = w3 := (List.cons.inj e).2
    obtain ⟨a0, a1, a2, a3, a4, a5, a6⟩ := h6
    have u1 : (1 : Int32).toInt = 1 := by decide
    have z29 : (B.1 124 29).toInt = 1 + (zopn w' : Int) := by
      rw [pvu_n e2 124 29 (Or.inr (by decide)), a3]
      show ((((if a = 33 ∨ a = 40 then 1 else 0) + zopn w' : Nat)) : Int) = _
      rw [if_pos ha]
      omega
    have bb := zbnd (B.1 124 29)
    refine ⟨a0, ?_, fun i z => by rw [f 139 _ (Or.inl (by decide))]; exact p i z, ?_, fun x hx => a4 x (List.mem_cons_of_mem _ hx), by rw [f 124 27 (by decide)]; exact a5, fun i z => by rw [f 138 _ (Or.inl (by decide))]; exact a6 i z⟩
    · rw [pvu_n e4 124 28 (Or.inr (by decide)), pvu_n e3 124 28 (Or.inr (by decide)), pvu_s e2, t3, ew]
    · rw [pvu_n e4 124 29 (Or.inr (by decide)), pvu_s e3, zsub _ _ (by rw [u1]; omega) (by rw [u1]; omega), u1, z29]; omega
  refine ⟨zTs_t (zTs_t h1 td) tz.1, _, _, ?_, d2 M w' o k⟩
  rw [if_pos rfl]
  have pz : zP10 Z = zP10 Y + 1 := by rw [← b1]; unfold zP10; rw [tz.2]
  rw [pz]
  exact h5
/-! a clause of the reference's reader -/
theorem zhw_4 {c : Int32} {w : Nat} {l : List Int32} (h : zhw c = some (w, l)) : w < 4 := by
  unfold zhw at h
  split at h
  · have := (Prod.mk.inj (Option.some.inj h)).1; omega
  · split at h
    · have := (Prod.mk.inj (Option.some.inj h)).1; omega
    · split at h
      · have := (Prod.mk.inj (Option.some.inj h)).1; omega
      · split at h
        · have := (Prod.mk.inj (Option.some.inj h)).1; omega
        · exact absurd h (by simp)
theorem zQh_y {c : Nat} {x : Int32} {M X : pvM} (h : zQh c (some (pvI x)) M X) (n : ¬ x = 0) : zTv M X ∧ (∀ a b : Nat, ¬ (a = 124 ∧ (b = 17 ∨ b = 18)) → a ≠ 134 → X.1 a b = M.1 a b) ∧ ∃ (w : Nat) (l : List Int32), zhw (zs10 M (zP10 M)) = some (w, l) ∧ zwd (zs10 M) l (zP10 M) = (true, zP10 X) ∧ X.1 134 c = nI w := by
  obtain ⟨a1, a2, b, e, a3⟩ := h
  have e : x = bif b then 1 else 0 := Sum.inl.inj (Option.some.inj e)
  have hb : b = true := by
    cases b
    · exact absurd e n
    · rfl
  subst hb
  refine ⟨a1, a2, ?_⟩
  cases k : zhw (zs10 M (zP10 M)) with
  | none => rw [k] at a3; exact absurd a3.1 (by decide)
  | some q =>
    obtain ⟨w, l⟩ := q
    rw [k] at a3
    exact ⟨w, l, rfl, a3.1, a3.2⟩
theorem zQh_n {c : Nat} {x : Int32} {M X : pvM} (h : zQh c (some (pvI x)) M X) (n : x = 0) : zTv M X ∧ ∀ (w : Nat) (m : Int32) (L : List Int32), zCl (zs10 M) (zP10 M) false (zP10 X) w m L := by
  obtain ⟨a1, a2, b, e, a3⟩ := h
  have e : x = bif b then 1 else 0 := Sum.inl.inj (Option.some.inj e)
  have hb : b = false := by
    cases b
    · rfl
    · rw [n] at e; exact absurd e (by decide)
  subst hb
  refine ⟨a1, fun w m L => ?_⟩
  unfold zCl
  cases k : zhw (zs10 M (zP10 M)) with
  | none => rw [k] at a3; exact ⟨rfl, a3.2⟩
  | some q =>
    obtain ⟨w', l⟩ := q
    rw [k] at a3
    dsimp only
    rw [a3.1, if_pos rfl]
    exact ⟨rfl, rfl⟩
def zQC (c : Nat) (r : Option pvV) (M X : pvM) : Prop := zTv M X ∧ ∃ (b : Bool) (w : Nat) (n : Int32) (L : List Int32), r = some (pvI (bif b then 1 else 0)) ∧ zCl (zs10 M) (zP10 M) b (zP10 X) w n L ∧ (b = true → X.1 134 c = nI w ∧ X.1 135 c = n ∧ (X.1 124 27).toInt = (M.1 124 27).toInt + L.length ∧ (w < 2 → X.1 136 c = M.1 124 27 ∧ X.1 137 c = X.1 124 27) ∧ ∀ i : Nat, i < L.length → X.1 138 (Int32.toNatClampNeg (M.1 124 27) + i) = L.getD i 0)
theorem zQC_1 {c : Nat} {x : Int32} {M X : pvM} (h : zQh c (some (pvI x)) M X) (n : x = 0) : zQC c (some (pvI 0)) M X := by
  obtain ⟨a, b⟩ := zQh_n h n
  exact ⟨a, false, 0, 0, [], rfl, b 0 0 [], fun z => absurd z (by decide)⟩
theorem zQC_2 {c : Nat} {x y : Int32} {M H X : pvM} (h : zQh c (some (pvI x)) M H) (n : ¬ x = 0) (d : zQn (some (pvI y)) H X) (n2 : y = 0) : zQC c (some (pvI 0)) M X := by
  obtain ⟨a1, a2, w, l, a3, a4, a5⟩ := zQh_y h n
  obtain ⟨b1, b2, b3, b4, b5⟩ := zQn_c d
  have b4 := b4 n2
  rw [zTs_s a1] at b3 b4
  refine ⟨zTs_t a1 b2, false, w, 0, [], rfl, ?_, fun z => absurd z (by decide)⟩
  unfold zCl
  rw [a3]
  dsimp only
  rw [a4, if_neg (by simp)]
  dsimp only
  rw [if_pos b4]
  exact ⟨rfl, b3⟩
/-- the word and the number are read and laid -/
def zQN (c : Nat) (M N : pvM) (w : Nat) (n : Int32) : Prop := zTv M N ∧ w < 4 ∧ N.1 134 c = nI w ∧ N.1 135 c = n ∧ (N.1 124 27 = M.1 124 27 ∧ ∀ i : Nat, N.1 138 i = M.1 138 i) ∧ ∀ {b : Bool} {r : Nat} {L : List Int32}, (if 2 ≤ w then b = true ∧ r = zP10 N ∧ L = [] else if zs10 M (zP10 N) = 32 then zyE (zs10 M) (zP10 N + 1) b r L else b = false ∧ r = zP10 N) → zCl (zs10 M) (zP10 M) b r w n L
theorem zQN_i {c : Nat} {x y : Int32} {M H Y N : pvM} (h : zQh c (some (pvI x)) M H) (n : ¬ x = 0) (d : zQn (some (pvI y)) H Y) (n2 : ¬ y = 0) (e : N = pvu Y 135 c (Y.1 124 18)) : ∃ (w : Nat) (m : Int32), zQN c M N w m := by
  obtain ⟨a1, a2, w, l, a3, a4, a5⟩ := zQh_y h n
  obtain ⟨b1, b2, b3, b4, b5⟩ := zQn_c d
  obtain ⟨b5, b6⟩ := b5 n2
  rw [zTs_s a1] at b3 b5 b6
  have f : ∀ a b : Nat, a ≠ 135 → N.1 a b = Y.1 a b := fun a b z => pvu_n e a b (Or.inl z)
  have ty : zTv Y N := ⟨f 124 16 (by decide), fun i => f 132 i (by decide), fun z => by rw [f 124 16 (by decide), f 124 17 (by decide)]; exact z⟩
  have p : zP10 N = zP10 Y := by unfold zP10; rw [f 124 17 (by decide)]
  refine ⟨w, _, zTs_t (zTs_t a1 b2) ty, zhw_4 a3, ?_, (pvu_s e).trans b6, ⟨?_, fun i => ?_⟩, fun {b r L} k => ?_⟩
  · rw [f 134 c (by decide), b1 134 c (by omega)]; exact a5
  · rw [f 124 27 (by decide), b1 124 27 (by decide)]; exact a2 124 27 (by decide) (by decide)
  · rw [f 138 i (by decide), b1 138 i (by omega)]; exact a2 138 i (by omega) (by decide)
  · rw [p] at k
    unfold zCl
    rw [a3]
    dsimp only
    rw [a4, if_neg (by simp)]
    dsimp only
    rw [if_neg (by rw [b5]; decide), ← b3]
    by_cases c2 : 2 ≤ w
    · rw [if_pos c2] at k ⊢
      exact ⟨k.1, k.2.1, rfl, rfl, k.2.2⟩
    · rw [if_neg c2] at k ⊢
      by_cases c3 : zs10 M (zP10 Y) = 32
      · rw [if_pos c3] at k ⊢
        exact ⟨k, rfl, rfl⟩
      · rw [if_neg c3] at k ⊢
        exact k
theorem zQC_3 {c w : Nat} {m : Int32} {M N : pvM} (h : zQN c M N w m) (hw : 2 ≤ (N.1 134 c).toInt) : zQC c (some (pvI 1)) M N := by
  obtain ⟨h1, h2, h3, h4, ⟨h5, h7⟩, h6⟩ := h
  rw [h3, nI_toInt (by omega)] at hw
  refine ⟨h1, true, w, m, [], rfl, h6 (by rw [if_pos (by omega)]; exact ⟨rfl, rfl, rfl⟩), fun _ => ⟨h3, h4, by rw [h5]; exact (Int.add_zero _).symm, fun z => absurd z (by omega), fun i z => absurd z (Nat.not_lt_zero _)⟩⟩
theorem zQC_4 {c w : Nat} {m x : Int32} {M N X : pvM} (h : zQN c M N w m) (hw : (N.1 134 c).toInt < 2) (d : zQb (zTsg 32) (some (pvI x)) N X) (n : x = 0) : zQC c (some (pvI 0)) M X := by
  obtain ⟨h1, h2, h3, h4, ⟨h5, h7⟩, h6⟩ := h
  rw [h3, nI_toInt (by omega)] at hw
  obtain ⟨a1, a2, a3⟩ := zQb_n d n
  obtain ⟨f1, f2⟩ := zTsg_n a3
  rw [zTs_s h1] at f1
  exact ⟨zTs_t h1 a2, false, w, m, [], rfl, h6 (by rw [if_neg (by omega), if_neg f1]; exact ⟨rfl, f2⟩), fun z => absurd z (by decide)⟩
theorem zQC_5 {c w : Nat} {m x y : Int32} {M N T X : pvM} (h : zQN c M N w m) (hw : (N.1 134 c).toInt < 2) (d : zQb (zTsg 32) (some (pvI x)) N T) (n : ¬ x = 0) (d2 : zQE c (some (pvI y)) T X) (r134 : X.1 134 = T.1 134) (r135 : X.1 135 = T.1 135) : zQC c (some (pvI y)) M X := by
  obtain ⟨h1, h2, h3, h4, ⟨h5, h7⟩, h6⟩ := h
  rw [h3, nI_toInt (by omega)] at hw
  obtain ⟨a1, a2, a3⟩ := zQb_y d n
  obtain ⟨f1, f2⟩ := zTsg_y a3
  have tt := zTs_t h1 a2
  rw [zTs_s h1] at f1
  obtain ⟨b1, b, L, b2, b3, b4⟩ := d2
  rw [zTs_s tt, f2] at b3
  refine ⟨zTs_t tt b1, b, w, m, L, b2, h6 (by rw [if_neg (by omega), if_pos f1]; exact b3), fun z => ?_⟩
  obtain ⟨c1, c2, c3, c4⟩ := b4 z
  have t27 : T.1 124 27 = M.1 124 27 := (a1 124 27 (by decide)).trans h5
  rw [t27] at c1 c3 c4
  refine ⟨by rw [r134, a1 134 c (by omega)]; exact h3, by rw [r135, a1 135 c (by omega)]; exact h4, c3, fun _ => ⟨c1, c2⟩, c4⟩
/-! a text of the reference's reader -/
def zsl10 (M : pvM) (a b : Nat) : List Int32 := (List.range (b - a)).map (fun j => M.1 138 (a + j))
theorem zsl10_c {M X : pvM} {a b : Nat} (h : ∀ j : Nat, j < b → X.1 138 j = M.1 138 j) : zsl10 X a b = zsl10 M a b := by
  unfold zsl10
  refine List.map_congr_left (fun j hj => ?_)
  have := List.mem_range.mp hj
  exact h _ (by omega)
theorem zsl10_L {X : pvM} {a : Nat} {L : List Int32} (h : ∀ j : Nat, j < L.length → X.1 138 (a + j) = L.getD j 0) : zsl10 X a (a + L.length) = L := by
  unfold zsl10
  rw [Nat.add_sub_cancel_left]
  refine List.ext_getElem (by rw [List.length_map, List.length_range]) (fun j h1 h2 => ?_)
  rw [List.getElem_map, List.getElem_range, h j h2, List.getD_eq_getElem?_getD, List.getElem?_eq_getElem h2]
  rfl
/-- the clauses as the reference keeps them -/
def zHb (Y : pvM) (f : Nat) (S : List (Nat × Int32 × List Int32)) : Prop := ∀ (i : Nat) (x : Nat × Int32 × List Int32), S[i]? = some x → (x.1 < 4 ∧ Y.1 134 (10 * f + i) = nI x.1) ∧ Y.1 135 (10 * f + i) = x.2.1 ∧ (x.1 < 2 → zsl10 Y (Int32.toNatClampNeg (Y.1 136 (10 * f + i))) (Int32.toNatClampNeg (Y.1 137 (10 * f + i))) = x.2.2 ∧ Int32.toNatClampNeg (Y.1 136 (10 * f + i)) ≤ Int32.toNatClampNeg (Y.1 137 (10 * f + i)) ∧ Int32.toNatClampNeg (Y.1 137 (10 * f + i)) ≤ 100 * f + 100)
def zHR (Y : pvM) (f : Nat) (S : List (Nat × Int32 × List Int32)) : Prop := (Y.1 133 f).toInt = (S.length : Int) ∧ zHb Y f S
theorem zHb_k {M X : pvM} {f : Nat} {S : List (Nat × Int32 × List Int32)} (h : zHb M f S) (k : ∀ i : Nat, i < S.length → X.1 134 (10 * f + i) = M.1 134 (10 * f + i) ∧ X.1 135 (10 * f + i) = M.1 135 (10 * f + i) ∧ X.1 136 (10 * f + i) = M.1 136 (10 * f + i) ∧ X.1 137 (10 * f + i) = M.1 137 (10 * f + i)) (k8 : ∀ (i j : Nat) (x : Nat × Int32 × List Int32), S[i]? = some x → x.1 < 2 → j < Int32.toNatClampNeg (M.1 137 (10 * f + i)) → X.1 138 j = M.1 138 j) : zHb X f S := fun i x e => by
  have hi := (List.getElem?_eq_some_iff.mp e).1
  obtain ⟨k1, k2, k3, k4⟩ := k i hi
  obtain ⟨a1, a2, a3⟩ := h i x e
  rw [k1, k2, k3, k4]
  refine ⟨a1, a2, fun z => ?_⟩
  rw [zsl10_c (M := M) (fun j hj => k8 i j x e z hj)]
  exact a3 z
/-- what stays of the other texts -/
def zQf (f : Nat) (M X : pvM) : Prop := (∀ k : Nat, k < 10 * f → X.1 134 k = M.1 134 k ∧ X.1 135 k = M.1 135 k ∧ X.1 136 k = M.1 136 k ∧ X.1 137 k = M.1 137 k) ∧ (∀ k : Nat, k < 100 * f → X.1 138 k = M.1 138 k) ∧ ∀ k : Nat, k ≠ f → X.1 133 k = M.1 133 k
theorem zQf_t {f : Nat} {M Y X : pvM} (h : zQf f M Y) (k : zQf f Y X) : zQf f M X := ⟨fun i z => ⟨(k.1 i z).1.trans (h.1 i z).1, (k.1 i z).2.1.trans (h.1 i z).2.1, (k.1 i z).2.2.1.trans (h.1 i z).2.2.1, (k.1 i z).2.2.2.trans (h.1 i z).2.2.2⟩, fun i z => (k.2.1 i z).trans (h.2.1 i z), fun i z => (k.2.2 i z).trans (h.2.2 i z)⟩
def zQX (f : Nat) (r : Option pvV) (M X : pvM) : Prop := zQf f M X ∧ ∃ (b : Bool) (S : List (Nat × Int32 × List Int32)), r = some (pvI (bif b then 1 else 0)) ∧ zTX (zs10 M) 9 0 b (zP10 X) S ∧ (b = true → zHR X f S)
def zGt (f k : Nat) (M Y : pvM) : Prop := zQf f M Y ∧ (Y.1 124 16 = M.1 124 16 ∧ ∀ i : Nat, Y.1 132 i = M.1 132 i) ∧ (Y.1 124 17).toInt ≤ (Y.1 124 16).toInt ∧ ∃ S : List (Nat × Int32 × List Int32), S.length = k ∧ zHb Y f S ∧ (∀ (i : Nat) (x : Nat × Int32 × List Int32), S[i]? = some x → x.1 < 2 → (Y.1 137 (10 * f + i)).toInt ≤ (Y.1 124 27).toInt) ∧ ∀ (b : Bool) (q' : Nat) (S' : List (Nat × Int32 × List Int32)), zTX (zs10 M) (9 - k) (zP10 Y) b q' S' → zTX (zs10 M) 9 0 b q' (S ++ S')
theorem zs10_k {M X : pvM} (h : X.1 124 16 = M.1 124 16 ∧ ∀ i : Nat, X.1 132 i = M.1 132 i) : zs10 X = zs10 M := by
  funext p
  unfold zs10
  rw [h.1, h.2]
theorem zGt_n {f k k' : Nat} {M X : pvM} (e : k' = k) (h : zGt f k M X) : zGt f k' M X := e ▸ h
theorem zGt_0 {f : Nat} {M A B : pvM} {v : Int32} (hok : pvOk M) (e1 : A = pvu M 124 17 0) (e2 : B = pvu A 124 27 v) : zGt f (Int32.toNatClampNeg 0) M B := by
  have g : ∀ a b, a ≠ 124 → B.1 a b = M.1 a b := fun a b z => (pvu_n e2 a b (Or.inl z)).trans (pvu_n e1 a b (Or.inl z))
  have c16 : B.1 124 16 = M.1 124 16 := (pvu_n e2 124 16 (Or.inr (by decide))).trans (pvu_n e1 124 16 (Or.inr (by decide)))
  have c17 : B.1 124 17 = 0 := (pvu_n e2 124 17 (Or.inr (by decide))).trans (pvu_s e1)
  have r := pvok_r hok 124 16 (lo := 0) (hi := 100) rfl
  refine ⟨⟨fun i _ => ⟨g _ _ (by decide), g _ _ (by decide), g _ _ (by decide), g _ _ (by decide)⟩, fun i _ => g _ _ (by decide), fun i _ => g _ _ (by decide)⟩, ⟨c16, fun i => g _ _ (by decide)⟩, ?_, [], rfl, fun i x e => absurd e (by simp), fun i x e => absurd e (by simp), fun b q' S' h => ?_⟩
  · rw [c16, c17]
    have u : (0 : Int32).toInt = 0 := by decide
    omega
  · have p : zP10 B = 0 := by unfold zP10; rw [c17]; decide
    rw [p] at h
    exact h
/-- what a clause leaves as it was -/
def zCfr (c : Nat) (M X : pvM) : Prop := zR2 M X c ∧ (∀ k : Nat, k ≠ c → X.1 135 k = M.1 135 k) ∧ ∀ k : Nat, X.1 133 k = M.1 133 k
theorem zCfr_f {f k c : Nat} {M X : pvM} (h : zCfr c M X) (hc : c = 10 * f + k) (h27 : (100 * f : Int) ≤ (M.1 124 27).toInt) : zQf f M X := by
  subst hc
  obtain ⟨⟨⟨g1, g2⟩, g3⟩, g4, g5⟩ := h
  exact ⟨fun i z => ⟨g3 i (by omega), g4 i (by omega), (g1 i (by omega)).1, (g1 i (by omega)).2⟩, fun i z => g2 i (by omega), fun i z => g5 i⟩
theorem zGt_f {f k c : Nat} {x : Int32} {M Y X : pvM} (h : zGt f k M Y) (hc : c = 10 * f + k) (h27 : (100 * f : Int) ≤ (Y.1 124 27).toInt) (d : zQC c (some (pvI x)) Y X) (n : x = 0) (df : zCfr c Y X) : zQX f (some (pvI 0)) M X := by
  obtain ⟨h1, h2, h3, S, h4, h5, h6, h7⟩ := h
  obtain ⟨a1, b, w, m, L, e, a2, a3⟩ := d
  have e : x = bif b then 1 else 0 := Sum.inl.inj (Option.some.inj e)
  have hb : b = false := by
    cases b
    · rfl
    · rw [n] at e; exact absurd e (by decide)
  subst hb
  rw [zs10_k h2] at a2
  exact ⟨zQf_t h1 (zCfr_f df hc h27), false, _, rfl, h7 false (zP10 X) [] (zTX_s ⟨false, zP10 X, w, m, L, a2, by rw [if_pos rfl]; exact ⟨rfl, rfl⟩⟩), fun z => absurd z (by decide)⟩
/-- a clause more -/
theorem zGt_c {f k c : Nat} {x v : Int32} {M Y Z X : pvM} (h : zGt f k M Y) (hc : c = 10 * f + k) (h27 : (100 * f : Int) ≤ (Y.1 124 27).toInt) (d : zQC c (some (pvI x)) Y Z) (n : ¬ x = 0) (df : zCfr c Y Z) (hz : (Z.1 124 27).toInt ≤ 100 * f + 100) (e : X = pvu Z 133 f v) : zQf f M X ∧ (X.1 124 16 = M.1 124 16 ∧ ∀ i : Nat, X.1 132 i = M.1 132 i) ∧ (X.1 124 17).toInt ≤ (X.1 124 16).toInt ∧ zP10 X = zP10 Z ∧ ∃ (S : List (Nat × Int32 × List Int32)) (w : Nat) (m : Int32) (L : List Int32), S.length = k ∧ zHb X f (S ++ [(w, m, L)]) ∧ (∀ (i : Nat) (x : Nat × Int32 × List Int32), (S ++ [(w, m, L)])[i]? = some x → x.1 < 2 → (X.1 137 (10 * f + i)).toInt ≤ (X.1 124 27).toInt) ∧ zCl (zs10 M) (zP10 Y) true (zP10 X) w m L ∧ ∀ (b : Bool) (q' : Nat) (S' : List (Nat × Int32 × List Int32)), zTX (zs10 M) (9 - k) (zP10 Y) b q' S' → zTX (zs10 M) 9 0 b q' (S ++ S') := by
  obtain ⟨h1, h2, h3, S, h4, h5, h6, h7⟩ := h
  obtain ⟨a1, b, w, m, L, ee, a2, a3⟩ := d
  have ee : x = bif b then 1 else 0 := Sum.inl.inj (Option.some.inj ee)
  have hb : b = true := by
    cases b
    · exact absurd ee n
    · rfl
  subst hb
  obtain ⟨c1, c2, c3, c4, c5⟩ := a3 rfl
  rw [zs10_k h2] at a2
  have g : ∀ a b, a ≠ 133 → X.1 a b = Z.1 a b := fun a b z => pvu_n e a b (Or.inl z)
  have p : zP10 X = zP10 Z := by unfold zP10; rw [g 124 17 (by decide)]
  have f1 := zCfr_f df hc h27
  obtain ⟨⟨⟨g1, g2⟩, g3⟩, g4, g5⟩ := df
  have f2 : zQf f Z X := ⟨fun i _ => ⟨g _ _ (by decide), g _ _ (by decide), g _ _ (by decide), g _ _ (by decide)⟩, fun i _ => g _ _ (by decide), fun i z => pvu_n e 133 i (Or.inr z)⟩
  have t0 := ztn (Y.1 124 27) (by omega)
  have t1 := ztn (Z.1 124 27) (by omega)
  have xs : Z.1 124 16 = M.1 124 16 := a1.1.trans h2.1
  have hcl : c - 10 * f = k := by omega
  refine ⟨zQf_t (zQf_t h1 f1) f2, ⟨(g 124 16 (by decide)).trans xs, fun i => (g 132 i (by decide)).trans ((a1.2.1 i).trans (h2.2 i))⟩, by rw [g 124 17 (by decide), g 124 16 (by decide)]; exact a1.2.2 h3, p, S, w, m, L, h4, fun i y ey => ?_, fun i y ey hy => ?_, by rw [p]; exact a2, h7⟩
  · rw [g 134 _ (by decide), g 135 _ (by decide), g 136 _ (by decide), g 137 _ (by decide)]
    by_cases hi : i < S.length
    · rw [List.getElem?_append_left hi] at ey
      have ne : 10 * f + i ≠ c := by omega
      obtain ⟨b1, b2, b3⟩ := h5 i y ey
      rw [g3 _ ne, g4 _ ne, (g1 _ ne).1, (g1 _ ne).2]
      refine ⟨b1, b2, fun z => ?_⟩
      have l := h6 i y ey z
      rw [zsl10_c (M := Y) (fun j hj => (g 138 j (by decide)).trans (g2 j (by
        have : (Int32.toNatClampNeg (Y.1 137 (10 * f + i)) : Int) ≤ (Y.1 124 27).toInt := by
          show (((Y.1 137 (10 * f + i)).toInt.toNat : Nat) : Int) ≤ _
          omega
        omega)))]
      exact b3 z
    · rw [List.getElem?_append_right (by omega)] at ey
      have hi2 : i = k := by
        have : i - S.length < 1 := by
          rw [← List.length_singleton (a := ((w, m, L) : Nat × Int32 × List Int32))]
          exact (List.getElem?_eq_some_iff.mp ey).1
        omega
      subst hi2
      rw [h4, Nat.sub_self] at ey
      have hx : (w, m, L) = y := Option.some.inj ey
      subst hx
      rw [← hc]
      have w4 : w < 4 := by
        unfold zCl at a2
        split at a2
        · exact absurd a2.1 (by decide)
        · next w' l eq =>
          split at a2
          · exact absurd a2.1 (by decide)
          · split at a2
            · exact absurd a2.1 (by decide)
            · split at a2
              · rw [a2.2.2.1]; exact zhw_4 eq
              · split at a2
                · rw [a2.2.1]; exact zhw_4 eq
                · exact absurd a2.1 (by decide)
      refine ⟨⟨w4, c1⟩, c2, fun z => ?_⟩
      obtain ⟨d1, d2⟩ := c4 z
      rw [d1, d2]
      have e6 : Int32.toNatClampNeg (Z.1 124 27) = Int32.toNatClampNeg (Y.1 124 27) + L.length := by omega
      rw [e6, zsl10_L (fun j hj => (g 138 _ (by decide)).trans (c5 j hj))]
      exact ⟨rfl, by omega, by omega⟩
  · rw [g 137 _ (by decide), g 124 27 (by decide)]
    by_cases hi : i < S.length
    · rw [List.getElem?_append_left hi] at ey
      rw [(g1 _ (by omega)).2]
      have := h6 i y ey hy
      omega
    · rw [List.getElem?_append_right (by omega)] at ey
      have hi2 : i = k := by
        have : i - S.length < 1 := by
          rw [← List.length_singleton (a := ((w, m, L) : Nat × Int32 × List Int32))]
          exact (List.getElem?_eq_some_iff.mp ey).1
        omega
      subst hi2
      rw [h4, Nat.sub_self] at ey
      have hx : (w, m, L) = y := Option.some.inj ey
      subst hx
      rw [← hc, (c4 hy).2]
      exact Int.le_refl _
theorem zs10_1 {M : pvM} (hok : pvOk M) (h : (M.1 124 17).toInt ≤ (M.1 124 16).toInt) : (zs10 M (zP10 M) = -1 ↔ M.1 124 17 = M.1 124 16) := by
  have r := pvok_r hok 124 17 (lo := 0) (hi := 100) rfl
  have e := ztn _ r.1
  unfold zs10 zP10
  by_cases c : (M.1 124 17).toInt < (M.1 124 16).toInt
  · rw [if_pos (by omega)]
    constructor
    · intro z
      have rt := pvok_r hok 132 (Int32.toNatClampNeg (M.1 124 17)) (lo := 0) (hi := 127) rfl
      rw [z] at rt
      exact absurd rt.1 (by decide)
    · intro z
      rw [z] at c
      omega
  · rw [if_neg (by omega)]
    exact ⟨fun _ => (zi_eq _ _).mpr (by omega), fun _ => rfl⟩
theorem zQX_2 {f k c : Nat} {x v : Int32} {M Y Z X : pvM} (hox : pvOk X) (h : zGt f k M Y) (hc : c = 10 * f + k) (h27 : (100 * f : Int) ≤ (Y.1 124 27).toInt) (d : zQC c (some (pvI x)) Y Z) (n : ¬ x = 0) (df : zCfr c Y Z) (hz : (Z.1 124 27).toInt ≤ 100 * f + 100) (e : X = pvu Z 133 f v) (hv : v.toInt = (k : Int) + 1) (ha : X.1 124 17 = X.1 124 16) : zQX f (some (pvI 1)) M X := by
  obtain ⟨h1, h2, h3, h4, S, w, m, L, h5, h6, h6b, h7, h8⟩ := zGt_c h hc h27 d n df hz e
  have s := (zs10_1 hox h3).mpr ha
  rw [zs10_k h2] at s
  refine ⟨h1, true, _, rfl, h8 true (zP10 X) [(w, m, L)] (zTX_s ⟨true, zP10 X, w, m, L, h7, by rw [if_neg (by decide), if_pos s]; exact ⟨rfl, rfl, rfl⟩⟩), fun _ => ⟨?_, h6⟩⟩
  rw [pvu_s e, hv, List.length_append, h5]
  rfl
theorem zQX_3 {f k c : Nat} {x v : Int32} {M Y Z X : pvM} (hox : pvOk X) (h : zGt f k M Y) (hc : c = 10 * f + k) (h27 : (100 * f : Int) ≤ (Y.1 124 27).toInt) (d : zQC c (some (pvI x)) Y Z) (n : ¬ x = 0) (df : zCfr c Y Z) (hz : (Z.1 124 27).toInt ≤ 100 * f + 100) (e : X = pvu Z 133 f v) (ha : ¬ X.1 124 17 = X.1 124 16) (hk : k = 9) : zQX f (some (pvI 0)) M X := by
  obtain ⟨h1, h2, h3, h4, S, w, m, L, h5, h6, h6b, h7, h8⟩ := zGt_c h hc h27 d n df hz e
  have s : ¬ zs10 M (zP10 X) = -1 := fun z => ha ((zs10_1 hox h3).mp (by rw [zs10_k h2]; exact z))
  subst hk
  exact ⟨h1, false, _, rfl, h8 false (zP10 X) [] (zTX_s ⟨true, zP10 X, w, m, L, h7, by rw [if_neg (by decide), if_neg s, if_neg (fun z => absurd z.1 (by decide))]; exact ⟨rfl, rfl⟩⟩), fun z => absurd z (by decide)⟩
theorem zQX_4 {f k c : Nat} {x v y : Int32} {M Y Z W X : pvM} (how : pvOk W) (h : zGt f k M Y) (hc : c = 10 * f + k) (h27 : (100 * f : Int) ≤ (Y.1 124 27).toInt) (d : zQC c (some (pvI x)) Y Z) (n : ¬ x = 0) (df : zCfr c Y Z) (hz : (Z.1 124 27).toInt ≤ 100 * f + 100) (e : W = pvu Z 133 f v) (ha : ¬ W.1 124 17 = W.1 124 16) (hk : k < 9) (d2 : zQb (zTsg 59) (some (pvI y)) W X) : (y = 0 → zQX f (some (pvI 0)) M X) ∧ (¬ y = 0 → zGt f (k + 1) M X) := by
  obtain ⟨h1, h2, h3, h4, S, w, m, L, h5, h6, h6b, h7, h8⟩ := zGt_c h hc h27 d n df hz e
  have s : ¬ zs10 M (zP10 W) = -1 := fun z => ha ((zs10_1 how h3).mp (by rw [zs10_k h2]; exact z))
  have fr : zKr W X → zQf f W X := fun k => ⟨fun i _ => ⟨k _ _ (by omega), k _ _ (by omega), k _ _ (by omega), k _ _ (by omega)⟩, fun i _ => k _ _ (by omega), fun i _ => k _ _ (by omega)⟩
  obtain ⟨g, hg⟩ : ∃ g, 9 - k = g + 1 := ⟨8 - k, by omega⟩
  refine ⟨fun u => ?_, fun u => ?_⟩
  · obtain ⟨b1, b2, b3⟩ := zQb_n d2 u
    obtain ⟨f1, f2⟩ := zTsg_n b3
    rw [zs10_k h2] at f1
    refine ⟨zQf_t h1 (fr b1), false, _, rfl, h8 false (zP10 X) [] (zTX_s ⟨true, zP10 W, w, m, L, h7, ?_⟩), fun z => absurd z (by decide)⟩
    rw [if_neg (by decide), if_neg s, if_neg (fun z => f1 z.2)]
    exact ⟨rfl, f2⟩
  · obtain ⟨b1, b2, b3⟩ := zQb_y d2 u
    obtain ⟨f1, f2⟩ := zTsg_y b3
    rw [zs10_k h2] at f1
    refine ⟨zQf_t h1 (fr b1), ⟨b2.1.trans h2.1, fun i => (b2.2.1 i).trans (h2.2 i)⟩, b2.2.2 h3, S ++ [(w, m, L)], by rw [List.length_append, h5]; rfl, zHb_k h6 (fun i _ => ⟨b1 _ _ (by omega), b1 _ _ (by omega), b1 _ _ (by omega), b1 _ _ (by omega)⟩) (fun i j x _ _ _ => b1 _ _ (by omega)), fun i x ex hx => by rw [b1 137 _ (by omega), b1 124 27 (by decide)]; exact h6b i x ex hx, fun b q' S' t => ?_⟩
    rw [List.append_assoc]
    refine h8 b q' _ ?_
    rw [f2, show 9 - (k + 1) = g by omega] at t
    rw [hg]
    refine ⟨true, zP10 W, w, m, L, h7, ?_⟩
    rw [if_neg (by decide), if_neg s, if_pos ⟨rfl, f1⟩]
    exact ⟨S', t, rfl⟩
theorem zta {a b : Int32} (ha : 0 ≤ a.toInt ∧ a.toInt ≤ 1000) (hb : 0 ≤ b.toInt ∧ b.toInt ≤ 1000) : Int32.toNatClampNeg (a + b) = Int32.toNatClampNeg a + Int32.toNatClampNeg b := by
  have e : (a + b).toInt = a.toInt + b.toInt := zadd _ _ (by omega) (by omega)
  have h1 := ztn a ha.1
  have h2 := ztn b hb.1
  have h3 := ztn (a + b) (by omega)
  omega
theorem zLet_r {M X : pvM} (h : zLet M) (r : X.1 140 = M.1 140) : zLet X := fun i hi => by
  rw [r]
  exact h i hi
theorem zEv_z {M Z : pvM} {t : Int32} (h : t = 0) (k : zEv M Z 0) : zEv M Z t := h ▸ k
theorem zplc (c : Int32) : (if c = 102 then (2 : Int32) else if c = 107 then 1 else if c = 114 then 3 else if c = 115 then 4 else if c = 116 then 5 else if c = 119 then 0 else -1) = zlf c := by
  unfold zlf
  by_cases k1 : c = 119
  · subst k1; decide
  by_cases k2 : c = 107
  · subst k2; decide
  by_cases k3 : c = 102
  · subst k3; decide
  by_cases k4 : c = 114
  · subst k4; decide
  by_cases k5 : c = 115
  · subst k5; decide
  by_cases k6 : c = 116
  · subst k6; decide
  simp only [if_neg k1, if_neg k2, if_neg k3, if_neg k4, if_neg k5, if_neg k6]
theorem zQE_0 {c : Nat} {x : Int32} {M X : pvM} (h : zQE c (some (pvI x)) M X) (e : x = 0) : zQE c (some (pvI 0)) M X := e ▸ h
theorem zQE_1 {c : Nat} {x : Int32} {M X : pvM} (h : zQE c (some (pvI x)) M X) (n : ¬ x = 0) : zQE c (some (pvI 1)) M X := by
  obtain ⟨a, b, L, e, k⟩ := h
  have e : x = bif b then 1 else 0 := Sum.inl.inj (Option.some.inj e)
  cases b
  · exact absurd e n
  · exact ⟨a, true, L, rfl, k⟩
