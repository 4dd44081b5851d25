theorem zwl_0 {Y : pvM} (h : zLet Y) : zwl Y (Int32.toNatClampNeg 0) (Int32.toNatClampNeg 3) = [119, 101, 116, 32] := by
  show [Y.1 140 0, Y.1 140 1, Y.1 140 2, 32] = _
  rw [h 0 (by decide), h 1 (by decide), h 2 (by decide)]
  rfl
theorem zwl_3 {Y : pvM} (h : zLet Y) : zwl Y (Int32.toNatClampNeg 3) (Int32.toNatClampNeg 3) = [100, 114, 121, 32] := by
  show [Y.1 140 3, Y.1 140 4, Y.1 140 5, 32] = _
  rw [h 3 (by decide), h 4 (by decide), h 5 (by decide)]
  rfl
theorem zwl_6 {Y : pvM} (h : zLet Y) : zwl Y (Int32.toNatClampNeg 6) (Int32.toNatClampNeg 5) = [115, 116, 97, 105, 114, 32] := by
  show [Y.1 140 6, Y.1 140 7, Y.1 140 8, Y.1 140 9, Y.1 140 10, 32] = _
  rw [h 6 (by decide), h 7 (by decide), h 8 (by decide), h 9 (by decide), h 10 (by decide)]
  rfl
theorem zwl_11 {Y : pvM} (h : zLet Y) : zwl Y (Int32.toNatClampNeg 11) (Int32.toNatClampNeg 4) = [108, 97, 115, 116, 32] := by
  show [Y.1 140 11, Y.1 140 12, Y.1 140 13, Y.1 140 14, 32] = _
  rw [h 11 (by decide), h 12 (by decide), h 13 (by decide), h 14 (by decide)]
  rfl
/-- a clause's word -/
def zQh (c : Nat) (r : Option pvV) (M X : pvM) : Prop := zTv M X ∧ (∀ a b : Nat, ¬ (a = 124 ∧ (b = 17 ∨ b = 18)) → a ≠ 134 → X.1 a b = M.1 a b) ∧ ∃ b : Bool, r = some (pvI (bif b then 1 else 0)) ∧ match zhw (zs10 M (zP10 M)) with
  | none => b = false ∧ zP10 X = zP10 M
  | some (w, l) => zwd (zs10 M) l (zP10 M) = (b, zP10 X) ∧ X.1 134 c = nI w
theorem zQh_c {c w : Nat} {x : Int32} {l l' : List Int32} {M Y X : pvM} (hc : zhw (zs10 M (zP10 M)) = some (w, l)) (e : Y = pvu M 134 c (nI w)) (d : zQb (zTw l') (some (pvI x)) Y X) (hl : l' = l) : zQh c (some (pvI x)) M X := by
  subst hl
  obtain ⟨a1, a2, b, a3, a4⟩ := d
  have f : ∀ a b : Nat, a ≠ 134 → Y.1 a b = M.1 a b := fun a b z => pvu_n e a b (Or.inl z)
  have ts : zTv M Y := ⟨f 124 16 (by decide), fun i => f 132 i (by decide), fun z => by rw [f 124 17 (by decide), f 124 16 (by decide)]; exact z⟩
  have p : zP10 Y = zP10 M := by unfold zP10; rw [f 124 17 (by decide)]
  refine ⟨zTs_t ts a2, fun a b h1 h2 => (a1 a b h1).trans (f a b h2), b, a3, ?_⟩
  rw [hc]
  unfold zTw at a4
  rw [zTs_s ts, p] at a4
  exact ⟨a4, (a1 134 c (by omega)).trans (pvu_s e)⟩
theorem zQh_d {c : Nat} {x : Int32} {l' : List Int32} {M Y X : pvM} (hc : zhw (zs10 M (zP10 M)) = none) (h1 : ¬ zs10 M (zP10 M) = 108) (e : Y = pvu M 134 c (nI 3)) (d : zQb (zTw l') (some (pvI x)) Y X) (hl : l' = [108, 97, 115, 116, 32]) : zQh c (some (pvI x)) M X := by
  subst hl
  obtain ⟨a1, a2, b, a3, a4⟩ := d
  have f : ∀ a b : Nat, a ≠ 134 → Y.1 a b = M.1 a b := fun a b z => pvu_n e a b (Or.inl z)
  have ts : zTv M Y := ⟨f 124 16 (by decide), fun i => f 132 i (by decide), fun z => by rw [f 124 17 (by decide), f 124 16 (by decide)]; exact z⟩
  have p : zP10 Y = zP10 M := by unfold zP10; rw [f 124 17 (by decide)]
  refine ⟨zTs_t ts a2, fun a b h1 h2 => (a1 a b h1).trans (f a b h2), b, a3, ?_⟩
  rw [hc]
  unfold zTw at a4
  rw [zTs_s ts, p] at a4
  have a4 : (if zs10 M (zP10 M) = 108 then zwd (zs10 M) [97, 115, 116, 32] (zP10 M + 1) else (false, zP10 M)) = (b, zP10 X) := a4
  rw [if_neg h1] at a4
  exact ⟨(Prod.mk.inj a4).1.symm, (Prod.mk.inj a4).2.symm⟩
theorem zhw_n {c : Int32} (h1 : ¬ c = 119) (h2 : ¬ c = 100) (h3 : ¬ c = 115) : (c = 108 → zhw c = some (3, [108, 97, 115, 116, 32])) ∧ (¬ c = 108 → zhw c = none) := by
  unfold zhw
  rw [if_neg h1, if_neg h2, if_neg h3]
  exact ⟨fun z => if_pos z, fun z => if_neg z⟩
theorem zQh_o {c : Nat} {x : Int32} {l' : List Int32} {M Y X : pvM} (h1 : ¬ zs10 M (zP10 M) = 119) (h2 : ¬ zs10 M (zP10 M) = 100) (h3 : ¬ zs10 M (zP10 M) = 115) (e : Y = pvu M 134 c 3) (d : zQb (zTw l') (some (pvI x)) Y X) (hl : l' = [108, 97, 115, 116, 32]) : zQh c (some (pvI x)) M X := by
  by_cases k : zs10 M (zP10 M) = 108
  · exact zQh_c ((zhw_n h1 h2 h3).1 k) e d hl
  · exact zQh_d ((zhw_n h1 h2 h3).2 k) k e d hl
/-! what waits and what is laid -/
def zCW (B Y : pvM) (w o : List Int32) : Prop := 0 ≤ (B.1 124 27).toInt ∧ (Y.1 124 28).toInt = (w.length : Int) ∧ (∀ i : Nat, i < w.length → Y.1 139 (w.length - 1 - i) = w.getD i 0) ∧ (Y.1 124 29).toInt = (zopn w : Int) ∧ (∀ a : Int32, a ∈ w → a = 33 ∨ a = 40 ∨ a = 38 ∨ a = 124) ∧ (Y.1 124 27).toInt = (B.1 124 27).toInt + o.length ∧ ∀ i : Nat, i < o.length → Y.1 138 (Int32.toNatClampNeg (B.1 124 27) + i) = o.getD i 0
theorem zCW_k {B Y X : pvM} {w o : List Int32} (h : zCW B Y w o) (h27 : X.1 124 27 = Y.1 124 27) (h28 : X.1 124 28 = Y.1 124 28) (h29 : X.1 124 29 = Y.1 124 29) (h138 : ∀ i : Nat, X.1 138 i = Y.1 138 i) (h139 : ∀ i : Nat, X.1 139 i = Y.1 139 i) : zCW B X w o := by
  obtain ⟨a0, a1, a2, a3, a4, a5, a6⟩ := h
  exact ⟨a0, by rw [h28]; exact a1, fun i z => (h139 _).trans (a2 i z), by rw [h29]; exact a3, a4, by rw [h27]; exact a5, fun i z => (h138 _).trans (a6 i z)⟩
theorem zCW_top {B Y : pvM} {w o : List Int32} (h : zCW B Y w o) (hw : 0 < (Y.1 124 28).toInt) : ∃ (a : Int32) (w' : List Int32), w = a :: w' ∧ Y.1 139 (Int32.toNatClampNeg (Y.1 124 28 - 1)) = a ∧ Int32.toNatClampNeg (Y.1 124 28 - 1) = w'.length ∧ (Y.1 124 28 - 1).toInt = (w'.length : Int) := by
  obtain ⟨a0, a1, a2, a3, a4, a5, a6⟩ := h
  cases w with
  | nil => rw [a1] at hw; exact absurd hw (by decide)
  | cons a w' =>
    rw [List.length_cons] at a1
    have u1 : (1 : Int32).toInt = 1 := by decide
    have b := zbnd (Y.1 124 28)
    have e : (Y.1 124 28 - 1).toInt = (w'.length : Int) := by rw [zsub _ _ (by rw [u1]; omega) (by rw [u1]; omega), u1]; omega
    have e2 := znat e
    refine ⟨a, w', rfl, ?_, e2, e⟩
    rw [e2]
    exact a2 0 (by rw [List.length_cons]; omega)
theorem zCW_pop {B Y : pvM} {a : Int32} {w o : List Int32} (h : zCW B Y (a :: w) o) : ∀ i : Nat, i < w.length → Y.1 139 (w.length - 1 - i) = w.getD i 0 := by
  intro i hi
  have := h.2.2.1 (i + 1) (by rw [List.length_cons]; omega)
  rw [List.length_cons, show w.length + 1 - 1 - (i + 1) = w.length - 1 - i by omega] at this
  exact this
/-- a step is laid -/
theorem zCW_e {B Y X : pvM} {w o : List Int32} {v : Int32} (h : zCW B Y w o) (hs : (Y.1 124 27).toInt ≤ 599) (d : X = zpe Y v) : zCW B X w (o ++ [v]) := by
  obtain ⟨a0, a1, a2, a3, a4, a5, a6⟩ := h
  obtain ⟨c1, c2, c3, c4, c5⟩ := zpe_c d
  have e1 : X = pvu (pvu Y 138 (Int32.toNatClampNeg (Y.1 124 27)) v) 124 27 (Y.1 124 27 + 1) := d
  have c6 : X.1 124 29 = Y.1 124 29 := (pvu_n e1 124 29 (Or.inr (by decide))).trans (pvu_n (M := Y) rfl 124 29 (Or.inl (by decide)))
  have t0 := ztn _ a0
  have t1 := ztn (Y.1 124 27) (by omega)
  refine ⟨a0, by rw [c4]; exact a1, fun i z => by rw [c3]; exact a2 i z, by rw [c6]; exact a3, a4, by rw [c1, zadd_1 _ (by omega), a5, List.length_append]; show _ + 1 = _ + ((o.length + 1 : Nat) : Int); omega, fun i hi => ?_⟩
  rw [List.length_append] at hi
  have hi : i < o.length + 1 := hi
  rw [c2]
  by_cases c : i < o.length
  · rw [zupd_n _ _ _ (by omega), a6 i c, List.getD_eq_getElem?_getD, List.getD_eq_getElem?_getD, List.getElem?_append_left c]
  · have e : i = o.length := by omega
    subst e
    rw [show Int32.toNatClampNeg (B.1 124 27) + o.length = Int32.toNatClampNeg (Y.1 124 27) by omega, zupd_s, List.getD_eq_getElem?_getD, List.getElem?_append_right (Nat.le_refl _), Nat.sub_self]
    rfl
/-! whole -/
def zWl (M Y : pvM) : Prop := ∀ (B : pvM) (w o : List Int32), zCW B M w o → ∃ w' o' : List Int32, zCW B Y w' o' ∧ zwh w o = zwh w' o'
def zWe (M X : pvM) : Prop := ∀ (B : pvM) (w o : List Int32), zCW B M w o → zCW B X (zwh w o).1 (zwh w o).2
theorem zWl_0 (M : pvM) : zWl M M := fun _ w o h => ⟨w, o, h, rfl⟩
theorem zWl_s {M Y X1 X2 X3 : pvM} (h : zWl M Y) (hs : (Y.1 124 27).toInt ≤ 599) (hw : 0 < (Y.1 124 28).toInt) (ht : Y.1 139 (Int32.toNatClampNeg (Y.1 124 28 - 1)) = 33) (d1 : X1 = zpe Y (-33)) (e2 : X2 = pvu X1 124 28 (X1.1 124 28 - 1)) (e3 : X3 = pvu X2 124 29 (X2.1 124 29 - 1)) : zWl M X3 := fun B w o hB => by
  obtain ⟨w', o', h1, h2⟩ := h B w o hB
  obtain ⟨a, w2, rfl, t1, t2, t3⟩ := zCW_top h1 hw
  have ha : a = 33 := t1.symm.trans ht
  subst ha
  have k := zCW_e h1 hs d1
  obtain ⟨c1, c2, c3, c4, c5⟩ := zpe_c d1
  refine ⟨w2, o' ++ [-33], ?_, h2.trans (if_pos rfl)⟩
  have p := zCW_pop k
  obtain ⟨a0, a1, a2, a3, a4, a5, a6⟩ := k
  have u1 : (1 : Int32).toInt = 1 := by decide
  have z29 : (X2.1 124 29).toInt = 1 + (zopn w2 : Int) := by
    rw [pvu_n e2 124 29 (Or.inr (by decide)), a3]
    show ((((if (33 : Int32) = 33 ∨ (33 : Int32) = 40 then 1 else 0) + zopn w2 : Nat)) : Int) = _
    rw [if_pos (Or.inl rfl)]
    omega
  have b := zbnd (X2.1 124 29)
  refine ⟨a0, ?_, fun i z => ?_, ?_, fun x hx => a4 x (List.mem_cons_of_mem _ hx), ?_, fun i z => ?_⟩
  · rw [pvu_n e3 124 28 (Or.inr (by decide)), pvu_s e2, c4]; exact t3
  · rw [pvu_n e3 139 _ (Or.inl (by decide)), pvu_n e2 139 _ (Or.inl (by decide))]; exact p i z
  · rw [pvu_s e3, zsub _ _ (by rw [u1]; omega) (by rw [u1]; omega), u1, z29]; omega
  · rw [pvu_n e3 124 27 (Or.inr (by decide)), pvu_n e2 124 27 (Or.inr (by decide))]; exact a5
  · rw [pvu_n e3 138 _ (Or.inl (by decide)), pvu_n e2 138 _ (Or.inl (by decide))]; exact a6 i z
theorem zWl_e {M Y : pvM} (h : zWl M Y) (c : (Y.1 124 28).toInt ≤ 0 ∨ ¬ Y.1 139 (Int32.toNatClampNeg (Y.1 124 28 - 1)) = 33) : zWe M Y := fun B w o hB => by
  obtain ⟨w', o', h1, h2⟩ := h B w o hB
  have e : zwh w' o' = (w', o') := by
    cases w' with
    | nil => rfl
    | cons a w2 =>
      have l : 0 < (Y.1 124 28).toInt := by rw [h1.2.1, List.length_cons]; omega
      obtain ⟨a', w3, e, t1, t2, t3⟩ := zCW_top h1 l
      have e1 : a = a' := (List.cons.inj e).1
      refine if_neg (fun z => ?_)
      rcases c with c | c
      · omega
      · exact c (by rw [t1, ← e1, z])
  rw [h2, e]
  exact h1
/-! settle -/
def zSl (n : Int32) (M Y : pvM) : Prop := ∀ (B : pvM) (w o : List Int32), zCW B M w o → ∃ w' o' : List Int32, zCW B Y w' o' ∧ zse n w o = zse n w' o'
def zSe (n : Int32) (M X : pvM) : Prop := ∀ (B : pvM) (w o : List Int32), zCW B M w o → zCW B X (zse n w o).1 (zse n w o).2
theorem zSl_0 (n : Int32) (M : pvM) : zSl n M M := fun _ w o h => ⟨w, o, h, rfl⟩
theorem zSl_s {n : Int32} {M Y X1 X2 : pvM} (h : zSl n M Y) (hs : (Y.1 124 27).toInt ≤ 599) (hw : 0 < (Y.1 124 28).toInt) (ht : Y.1 139 (Int32.toNatClampNeg (Y.1 124 28 - 1)) = 38 ∨ (Y.1 139 (Int32.toNatClampNeg (Y.1 124 28 - 1)) = 124 ∧ ¬ n = 38)) (e1 : X1 = pvu Y 124 28 (Y.1 124 28 - 1)) (d2 : X2 = zpe X1 (-(X1.1 139 (Int32.toNatClampNeg (X1.1 124 28))))) : zSl n M X2 := fun B w o hB => by
  obtain ⟨w', o', h1, h2⟩ := h B w o hB
  obtain ⟨a, w2, rfl, t1, t2, t3⟩ := zCW_top h1 hw
  rw [t1] at ht
  have p := zCW_pop h1
  obtain ⟨a0, a1, a2, a3, a4, a5, a6⟩ := h1
  have n33 : ¬ (a = 33 ∨ a = 40) := by
    rcases ht with rfl | ⟨rfl, _⟩ <;> decide
  have k : zCW B X1 w2 o' := by
    refine ⟨a0, by rw [pvu_s e1]; exact t3, fun i z => by rw [pvu_n e1 139 _ (Or.inl (by decide))]; exact p i z, ?_, fun x hx => a4 x (List.mem_cons_of_mem _ hx), by rw [pvu_n e1 124 27 (Or.inr (by decide))]; exact a5, fun i z => by rw [pvu_n e1 138 _ (Or.inl (by decide))]; exact a6 i z⟩
    rw [pvu_n e1 124 29 (Or.inr (by decide)), a3]
    show ((((if a = 33 ∨ a = 40 then 1 else 0) + zopn w2 : Nat)) : Int) = _
    rw [if_neg n33, Nat.zero_add]
  have ev : X1.1 139 (Int32.toNatClampNeg (X1.1 124 28)) = a := by
    rw [pvu_s e1, pvu_n e1 139 _ (Or.inl (by decide)), t1]
  rw [ev] at d2
  exact ⟨w2, o' ++ [-a], zCW_e k (by rw [pvu_n e1 124 27 (Or.inr (by decide))]; exact hs) d2, h2.trans (if_pos ht)⟩
theorem zSl_e {n : Int32} {M Y : pvM} (h : zSl n M Y) (c : (Y.1 124 28).toInt ≤ 0 ∨ ¬ (Y.1 139 (Int32.toNatClampNeg (Y.1 124 28 - 1)) = 38 ∨ (Y.1 139 (Int32.toNatClampNeg (Y.1 124 28 - 1)) = 124 ∧ ¬ n = 38))) : zSe n M Y := fun B w o hB => by
  obtain ⟨w', o', h1, h2⟩ := h B w o hB
  have e : zse n w' o' = (w', o') := by
    cases w' with
    | nil => rfl
    | cons a w2 =>
      have l : 0 < (Y.1 124 28).toInt := by rw [h1.2.1, List.length_cons]; omega
      obtain ⟨a', w3, e, t1, t2, t3⟩ := zCW_top h1 l
      have e1 : a = a' := (List.cons.inj e).1
      refine if_neg (fun z => ?_)
      rcases c with c | c
      · omega
      · exact c (by rw [t1, ← e1]; exact z)
  rw [h2, e]
  exact h1
theorem zse_top {s : Int32} : ∀ {w o : List Int32} {a : Int32} {w' : List Int32}, (zse s w o).1 = a :: w' → ¬ (a = 38 ∨ (a = 124 ∧ ¬ s = 38)) ∧ (∀ x, x ∈ a :: w' → x ∈ w)
  | [], o, a, w', h => absurd h (by unfold zse; simp)
  | b :: w, o, a, w', h => by
    unfold zse at h
    split at h
    · next c =>
      obtain ⟨k1, k2⟩ := zse_top h
      exact ⟨k1, fun x hx => List.mem_cons_of_mem _ (k2 x hx)⟩
    · next c =>
      have e : b = a ∧ w = w' := List.cons.inj h
      rw [e.1] at c
      exact ⟨c, fun x hx => by rw [e.1, e.2]; exact hx⟩
/-! a test -/
def zQt (r : Option pvV) (M X : pvM) : Prop := zTv M X ∧ ∃ b : Bool, r = some (pvI (bif b then 1 else 0)) ∧ ztst (zs10 M) (zP10 M) = (b, zP10 X) ∧ ∀ (B : pvM) (w o : List Int32), zCW B M w o → if b = true then zCW B X (zwh w (o ++ [zk10 (zs10 M) (zP10 M)])).1 (zwh w (o ++ [zk10 (zs10 M) (zP10 M)])).2 else zCW B X w o
theorem zCW_r {B M X : pvM} {w o : List Int32} (h : zCW B M w o) (k : zKr M X) : zCW B X w o := zCW_k h (k 124 27 (by decide)) (k 124 28 (by decide)) (k 124 29 (by decide)) (fun i => k 138 i (by omega)) (fun i => k 139 i (by omega))
theorem zQt_1 {x c : Int32} {M : pvM} (hc : zs10 M (zP10 M) = c) (hx : x = zlf c) (h : x.toInt < 0) : zQt (some (pvI 0)) M M := by
  refine ⟨zTv_r M, false, rfl, ?_, fun B w o k => by rw [if_neg Bool.false_ne_true]; exact k⟩
  unfold ztst
  rw [hx, zlf_s] at h
  rw [hc, if_neg (fun z => z h)]
theorem zlf_p {x c : Int32} (hx : x = zlf c) (h : 0 ≤ x.toInt) : ¬ zlf c = -1 := fun z => by
  rw [hx, z] at h
  exact absurd h (by decide)
theorem zQt_2 {x c c2 : Int32} {M M1 : pvM} (hok : pvOk M) (hc : zs10 M (zP10 M) = c) (hx : x = zlf c) (h : 0 ≤ x.toInt) (ht : ¬ M.1 124 16 ≤ M.1 124 17) (e1 : M1 = pvu M 124 17 (M.1 124 17 + 1)) (hc2 : zs10 M1 (zP10 M1) = c2) (hs : c2 < 60 ∨ 62 < c2) : zQt (some (pvI 0)) M M1 := by
  obtain ⟨b1, b2⟩ := zat_1 hok ht (pvu_s e1)
  have k := zKr_u e1 (Or.inl rfl)
  have ts := zKr_T k (fun _ => b2)
  refine ⟨ts, false, rfl, ?_, fun B w o z => by rw [if_neg Bool.false_ne_true]; exact zCW_r z k⟩
  rw [zTs_s ts, b1] at hc2
  have n : ¬ zsg c2 = true := by
    intro z
    unfold zsg at z
    rw [Bool.and_eq_true, decide_eq_true_eq, decide_eq_true_eq, zi_le, zi_le] at z
    rw [zi_lt, zi_lt] at hs
    omega
  unfold ztst
  rw [hc, if_pos (zlf_p hx h), hc2, if_neg n, b1]
theorem zsg_p {c : Int32} (h1 : ¬ c < 60) (h2 : ¬ 62 < c) : zsg c = true := by
  unfold zsg
  rw [Bool.and_eq_true, decide_eq_true_eq, decide_eq_true_eq, zi_le, zi_le]
  rw [zi_lt] at h1 h2
  omega
theorem zQt_m {x c c2 : Int32} {M M1 M2 : pvM} (hok : pvOk M) (hok1 : pvOk M1) (hc : zs10 M (zP10 M) = c) (hx : x = zlf c) (h : 0 ≤ x.toInt) (ht : ¬ M.1 124 16 ≤ M.1 124 17) (e1 : M1 = pvu M 124 17 (M.1 124 17 + 1)) (hc2 : zs10 M1 (zP10 M1) = c2) (h1 : ¬ c2 < 60) (h2 : ¬ 62 < c2) (ht1 : ¬ M1.1 124 16 ≤ M1.1 124 17) (e2 : M2 = pvu M1 124 17 (M1.1 124 17 + 1)) : zKr M M2 ∧ zTv M M2 ∧ zP10 M2 = zP10 M + 2 ∧ ¬ zlf (zs10 M (zP10 M)) = -1 ∧ zs10 M (zP10 M + 1) = c2 ∧ zsg (zs10 M (zP10 M + 1)) = true := by
  obtain ⟨b1, b2⟩ := zat_1 hok ht (pvu_s e1)
  obtain ⟨b3, b4⟩ := zat_1 hok1 ht1 (pvu_s e2)
  have k := zKr_u e1 (Or.inl rfl)
  have ts := zKr_T k (fun _ => b2)
  have k2 := zKr_u e2 (Or.inl rfl)
  have ts2 := zKr_T k2 (fun _ => b4)
  rw [zTs_s ts, b1] at hc2
  exact ⟨zKr_t k k2, zTs_t ts ts2, by omega, by rw [hc]; exact zlf_p hx h, hc2, by rw [hc2]; exact zsg_p h1 h2⟩
theorem zQn_c {x : Int32} {M X : pvM} (h : zQn (some (pvI x)) M X) : zKr M X ∧ zTv M X ∧ zP10 X = (znu (zs10 M) (zP10 M)).2.1 ∧ (x = 0 → (znu (zs10 M) (zP10 M)).1 = false) ∧ (¬ x = 0 → (znu (zs10 M) (zP10 M)).1 = true ∧ X.1 124 18 = (znu (zs10 M) (zP10 M)).2.2) := by
  obtain ⟨a, b, t, e, k1, k2, k3⟩ := h
  have e : x = bif t then 1 else 0 := Sum.inl.inj (Option.some.inj e)
  refine ⟨a, b, k2, fun z => ?_, fun z => ?_⟩
  · cases t
    · exact k1.symm
    · rw [z] at e; exact absurd e (by decide)
  · cases t
    · exact absurd e z
    · exact ⟨k1.symm, k3 rfl⟩
theorem zQt_3 {x c c2 y : Int32} {M M1 M2 X : pvM} (hok : pvOk M) (hok1 : pvOk M1) (hc : zs10 M (zP10 M) = c) (hx : x = zlf c) (h : 0 ≤ x.toInt) (ht : ¬ M.1 124 16 ≤ M.1 124 17) (e1 : M1 = pvu M 124 17 (M.1 124 17 + 1)) (hc2 : zs10 M1 (zP10 M1) = c2) (h1 : ¬ c2 < 60) (h2 : ¬ 62 < c2) (ht1 : ¬ M1.1 124 16 ≤ M1.1 124 17) (e2 : M2 = pvu M1 124 17 (M1.1 124 17 + 1)) (d : zQn (some (pvI y)) M2 X) (hy : y = 0) : zQt (some (pvI 0)) M X := by
  obtain ⟨k1, k2, k3, k4, k5, k6⟩ := zQt_m hok hok1 hc hx h ht e1 hc2 h1 h2 ht1 e2
  obtain ⟨g1, g2, g3, g4, g5⟩ := zQn_c d
  have g4 := g4 hy
  rw [zTs_s k2, k3] at g3 g4
  refine ⟨zTs_t k2 g2, false, rfl, ?_, fun B w o z => by rw [if_neg Bool.false_ne_true]; exact zCW_r z (zKr_t k1 g1)⟩
  unfold ztst
  rw [if_pos k4, if_pos k6, g4, g3]
theorem zQt_4 {x c c2 y : Int32} {M M1 M2 X E Z : pvM} (hok : pvOk M) (hok1 : pvOk M1) (hc : zs10 M (zP10 M) = c) (hx : x = zlf c) (h : 0 ≤ x.toInt) (ht : ¬ M.1 124 16 ≤ M.1 124 17) (e1 : M1 = pvu M 124 17 (M.1 124 17 + 1)) (hc2 : zs10 M1 (zP10 M1) = c2) (h1 : ¬ c2 < 60) (h2 : ¬ 62 < c2) (ht1 : ¬ M1.1 124 16 ≤ M1.1 124 17) (e2 : M2 = pvu M1 124 17 (M1.1 124 17 + 1)) (d : zQn (some (pvI y)) M2 X) (hy : ¬ y = 0) (hs : (X.1 124 27).toInt ≤ 599) (d2 : E = zpe X (((1000 * x) + (100 * (c2 - 60))) + X.1 124 18)) (d3 : zWe E Z) (tz : zTv E Z) (z17 : Z.1 124 17 = E.1 124 17) : zQt (some (pvI 1)) M Z := by
  obtain ⟨k1, k2, k3, k4, k5, k6⟩ := zQt_m hok hok1 hc hx h ht e1 hc2 h1 h2 ht1 e2
  obtain ⟨g1, g2, g3, g4, g5⟩ := zQn_c d
  obtain ⟨g5, g6⟩ := g5 hy
  rw [zTs_s k2, k3] at g3 g5 g6
  have f := fun a b h1 h2 => (pvu_n (show E = pvu (pvu X 138 (Int32.toNatClampNeg (X.1 124 27)) _) 124 27 (X.1 124 27 + 1) from d2) a b h1).trans (pvu_n (M := X) rfl a b h2)
  have f17 : E.1 124 17 = X.1 124 17 := f 124 17 (Or.inr (by decide)) (Or.inl (by decide))
  have te : zTv X E := ⟨f 124 16 (Or.inr (by decide)) (Or.inl (by decide)), fun i => f 132 i (Or.inl (by decide)) (Or.inl (by decide)), fun z => by rw [f17, f 124 16 (Or.inr (by decide)) (Or.inl (by decide))]; exact z⟩
  have p : zP10 Z = zP10 X := by unfold zP10; rw [z17, f17]
  refine ⟨zTs_t (zTs_t k2 g2) (zTs_t te tz), true, rfl, ?_, fun B w o z => ?_⟩
  · unfold ztst
    rw [if_pos k4, if_pos k6, g5, p, g3]
  · rw [if_pos rfl]
    refine d3 B w _ ?_
    have e : ((1000 * x) + (100 * (c2 - 60))) + X.1 124 18 = zk10 (zs10 M) (zP10 M) := by
      unfold zk10
      rw [hx, hc, k5, g6]
    rw [e] at d2
    exact zCW_e (zCW_r z (zKr_t k1 g1)) hs d2
