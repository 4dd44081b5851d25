/-! an E of the reference's reader -/
theorem zTs_f {L : List (Nat × Nat × Nat)} {M X : pvM} (hf : pvFr (pvfp L) M X) (h16 : pvfp L 124 16 = false) (h17 : pvfp L 124 17 = false) (h132 : pvfq L 132 = false) : zTv M X ∧ X.1 124 17 = M.1 124 17 := ⟨⟨hf _ _ h16, fun i => hf _ _ (pvfq_p h132 i), fun z => by rw [hf _ _ h16, hf _ _ h17]; exact z⟩, hf _ _ h17⟩
def zEv (M Y : pvM) (t : Int32) : Prop := zTv M Y ∧ ∃ w o : List Int32, zyR (zs10 M) (0, [], zP10 M, []) ((if t = 0 then 1 else 0), w, zP10 Y, o) ∧ zCW M Y w o
theorem zopn_le : ∀ w : List Int32, zopn w ≤ w.length
  | [] => Nat.le_refl _
  | a :: w => by
    have := zopn_le w
    show (if a = 33 ∨ a = 40 then 1 else 0) + zopn w ≤ w.length + 1
    split <;> omega
theorem zsE_c (σ : Nat → Int32) (p : Nat) (a : Int32) (w o : List Int32) : zsE σ p (a :: w) o = if σ p = 41 then (1, (zwh w o).1, p + 1, (zwh w o).2) else (3, [], p, []) := rfl
theorem zEv_0 {M A B C : pvM} {c : Nat} (hok : pvOk M) (e1 : A = pvu M 124 28 0) (e2 : B = pvu A 124 29 0) (e3 : C = pvu B 136 c (B.1 124 27)) : zEv M C 1 := by
  have f : ∀ a b, a ≠ 136 → (a ≠ 124 ∨ (b ≠ 28 ∧ b ≠ 29)) → C.1 a b = M.1 a b := fun a b h1 h2 => (pvu_n e3 a b (Or.inl h1)).trans ((pvu_n e2 a b (h2.imp id (fun z => z.2))).trans (pvu_n e1 a b (h2.imp id (fun z => z.1))))
  refine ⟨⟨f 124 16 (by decide) (by decide), fun i => f 132 i (by decide) (Or.inl (by decide)), fun z => by rw [f 124 16 (by decide) (by decide), f 124 17 (by decide) (by decide)]; exact z⟩, [], [], ?_, ?_⟩
  · rw [if_neg (by decide)]
    have p : zP10 C = zP10 M := by unfold zP10; rw [f 124 17 (by decide) (by decide)]
    rw [p]
    exact zyR_r _ _
  · refine ⟨(pvok_r hok 124 27 (lo := 0) (hi := 600) rfl).1, ?_, fun i z => absurd z (Nat.not_lt_zero _), ?_, fun a z => absurd z (by simp), ?_, fun i z => absurd z (Nat.not_lt_zero _)⟩
    · rw [pvu_n e3 124 28 (Or.inl (by decide)), pvu_n e2 124 28 (Or.inr (by decide)), pvu_s e1]; rfl
    · rw [pvu_n e3 124 29 (Or.inl (by decide)), pvu_s e2]; rfl
    · rw [f 124 27 (by decide) (by decide)]; exact (Int.add_zero _).symm
/-- something is pushed -/
theorem zCW_p {B Y X : pvM} {w o : List Int32} {c : Int32} {A : pvM} (h : zCW B Y w o) (hc : c = 33 ∨ c = 40 ∨ c = 38 ∨ c = 124) (hm : (Y.1 124 28).toInt ≤ 1000) (e2 : A = pvu Y 139 (Int32.toNatClampNeg (Y.1 124 28)) c) (x28 : X.1 124 28 = Y.1 124 28 + 1) (x29 : (X.1 124 29).toInt = (zopn (c :: w) : Int)) (x27 : X.1 124 27 = Y.1 124 27) (x138 : ∀ i : Nat, X.1 138 i = Y.1 138 i) (x139 : ∀ i : Nat, X.1 139 i = A.1 139 i) : zCW B X (c :: w) o := by
  obtain ⟨a0, a1, a2, a3, a4, a5, a6⟩ := h
  have e := znat a1
  refine ⟨a0, by rw [x28, zadd_1 _ (by omega), a1]; rfl, fun i z => ?_, x29, fun a ha => ?_, by rw [x27]; exact a5, fun i z => (x138 _).trans (a6 i z)⟩
  · rw [x139]
    rw [List.length_cons] at z ⊢
    cases i with
    | zero =>
      rw [show w.length + 1 - 1 - 0 = Int32.toNatClampNeg (Y.1 124 28) by omega]
      exact pvu_s e2
    | succ i =>
      rw [pvu_n e2 139 _ (Or.inr (by omega)), show w.length + 1 - 1 - (i + 1) = w.length - 1 - i by omega]
      exact a2 i (by omega)
  · rcases List.mem_cons.mp ha with rfl | ha
    · exact hc
    · exact a4 a ha
theorem zEv_p {M Y A B C D : pvM} {t c : Int32} (hoy : pvOk Y) (h : zEv M Y t) (ht : ¬ t = 0) (hn : ¬ Y.1 124 16 ≤ Y.1 124 17) (hc : Y.1 132 (Int32.toNatClampNeg (Y.1 124 17)) = c) (hc2 : c = 33 ∨ c = 40) (ho : ¬ Y.1 124 29 = 4) (e1 : A = pvu Y 124 29 (Y.1 124 29 + 1)) (e2 : B = pvu A 139 (Int32.toNatClampNeg (A.1 124 28)) (Y.1 132 (Int32.toNatClampNeg (Y.1 124 17)))) (e3 : C = pvu B 124 28 (B.1 124 28 + 1)) (e4 : D = pvu C 124 17 (C.1 124 17 + 1)) : zEv M D t := by
  obtain ⟨h1, w, o, h2, h3⟩ := h
  have c17 : C.1 124 17 = Y.1 124 17 := (pvu_n e3 124 17 (Or.inr (by decide))).trans ((pvu_n e2 124 17 (Or.inl (by decide))).trans (pvu_n e1 124 17 (Or.inr (by decide))))
  obtain ⟨b1, b2⟩ := zat_1 (X := D) hoy hn (by rw [pvu_s e4, c17])
  have f : ∀ a b, a ≠ 139 → (a ≠ 124 ∨ (b ≠ 28 ∧ b ≠ 29 ∧ b ≠ 17)) → D.1 a b = Y.1 a b := fun a b k1 k2 => (pvu_n e4 a b (k2.imp id (fun z => z.2.2))).trans ((pvu_n e3 a b (k2.imp id (fun z => z.1))).trans ((pvu_n e2 a b (Or.inl k1)).trans (pvu_n e1 a b (k2.imp id (fun z => z.2.1)))))
  have ts : zTv Y D := ⟨f 124 16 (by decide) (by decide), fun i => f 132 i (by decide) (Or.inl (by decide)), fun _ => by rw [f 124 16 (by decide) (by decide)]; exact b2⟩
  have rw28 := pvok_r hoy 124 28 (lo := 0) (hi := 101) rfl
  have rw29 := h3.2.2.2.1
  have no : ¬ zopn w = 4 := fun z => ho ((zi_eq _ _).mpr (by rw [rw29, z]; decide))
  rw [hc] at e2
  have a28 : A.1 124 28 = Y.1 124 28 := pvu_n e1 124 28 (Or.inr (by decide))
  rw [a28] at e2
  have hz := zbnd (Y.1 124 29)
  have r29 := zopn_le w
  have r30 := h3.2.1
  have d29 : (D.1 124 29).toInt = ((zopn (c :: w) : Nat) : Int) := by
    rw [pvu_n e4 124 29 (Or.inr (by decide)), pvu_n e3 124 29 (Or.inr (by decide)), pvu_n e2 124 29 (Or.inl (by decide)), pvu_s e1, zadd_1 _ (by omega), rw29]
    show _ = ((((if c = 33 ∨ c = 40 then 1 else 0) + zopn w : Nat)) : Int)
    rw [if_pos hc2]
    omega
  refine ⟨zTs_t h1 ts, c :: w, o, zyR_t h2 (zyR_1 ?_), ?_⟩
  · have s : zs10 M (zP10 Y) = c := by rw [← zTs_s h1, zpk_t hoy hn, hc]
    rw [if_neg ht, zst1_W]
    unfold zsW
    rw [s, if_pos hc2, if_neg no, b1]
  · refine zCW_p (A := pvu Y 139 (Int32.toNatClampNeg (Y.1 124 28)) c) h3 (by rcases hc2 with z | z <;> simp [z]) (by omega) rfl ?_ d29 (f 124 27 (by decide) (by decide)) (fun i => f 138 i (by decide) (Or.inl (by decide))) (fun i => ?_)
    · rw [pvu_n e4 124 28 (Or.inr (by decide)), pvu_s e3, pvu_n e2 124 28 (Or.inl (by decide)), a28]
    · rw [pvu_n e4 139 i (Or.inl (by decide)), pvu_n e3 139 i (Or.inl (by decide)), e2]
      unfold pvu
      rw [pvr_q, pvr_q, pvu_row e1 (by decide)]
/-- what an E ends with -/
def zQE (c : Nat) (r : Option pvV) (M X : pvM) : Prop := zTv M X ∧ ∃ (b : Bool) (L : List Int32), r = some (pvI (bif b then 1 else 0)) ∧ zyE (zs10 M) (zP10 M) b (zP10 X) L ∧ (b = true → X.1 136 c = M.1 124 27 ∧ X.1 137 c = X.1 124 27 ∧ (X.1 124 27).toInt = (M.1 124 27).toInt + L.length ∧ ∀ i : Nat, i < L.length → X.1 138 (Int32.toNatClampNeg (M.1 124 27) + i) = L.getD i 0)
theorem zQE_4 {M Y : pvM} {t c' : Int32} {c : Nat} (hoy : pvOk Y) (h : zEv M Y t) (ht : ¬ t = 0) (hn : ¬ Y.1 124 16 ≤ Y.1 124 17) (hc : Y.1 132 (Int32.toNatClampNeg (Y.1 124 17)) = c') (hc2 : c' = 33 ∨ c' = 40) (ho : Y.1 124 29 = 4) : zQE c (some (pvI 0)) M Y := by
  obtain ⟨h1, w, o, h2, h3⟩ := h
  have no : zopn w = 4 := by
    have := h3.2.2.2.1
    rw [ho] at this
    have u : (4 : Int32).toInt = 4 := by decide
    omega
  have s : zs10 M (zP10 Y) = c' := by rw [← zTs_s h1, zpk_t hoy hn, hc]
  refine ⟨h1, false, [], rfl, ?_, fun z => absurd z (by decide)⟩
  unfold zyE
  rw [if_neg Bool.false_ne_true]
  refine zyR_t h2 (zyR_1 ?_)
  rw [if_neg ht, zst1_W]
  unfold zsW
  rw [s, if_pos hc2, if_pos no]
theorem zEv_w {M Y : pvM} {t c : Int32} (h : zEv M Y t) (ht : ¬ t = 0) (hc : zs10 Y (zP10 Y) = c) (n : ¬ c = 33 ∧ ¬ c = 40) : zTv M Y ∧ ∃ w o : List Int32, zyR (zs10 M) (0, [], zP10 M, []) (if (ztst (zs10 M) (zP10 Y)).1 = true then (1, (zwh w (o ++ [zk10 (zs10 M) (zP10 Y)])).1, (ztst (zs10 M) (zP10 Y)).2, (zwh w (o ++ [zk10 (zs10 M) (zP10 Y)])).2) else (3, [], (ztst (zs10 M) (zP10 Y)).2, [])) ∧ zCW M Y w o := by
  obtain ⟨h1, w, o, h2, h3⟩ := h
  refine ⟨h1, w, o, zyR_t h2 (zyR_1 ?_), h3⟩
  rw [zTs_s h1] at hc
  rw [if_neg ht, zst1_W]
  unfold zsW
  rw [if_neg (by rw [hc]; exact fun z => z.elim n.1 n.2)]
theorem zEv_t {M Y X : pvM} {t c x : Int32} (h : zEv M Y t) (ht : ¬ t = 0) (hc : zs10 Y (zP10 Y) = c) (n : ¬ c = 33 ∧ ¬ c = 40) (d : zQt (some (pvI x)) Y X) (hx : ¬ x = 0) : zEv M X 0 := by
  obtain ⟨h1, w, o, h2, h3⟩ := zEv_w h ht hc n
  obtain ⟨a1, b, e, a2, a3⟩ := d
  have e : x = bif b then 1 else 0 := Sum.inl.inj (Option.some.inj e)
  have hb : b = true := by
    cases b
    · exact absurd e hx
    · rfl
  subst hb
  rw [zTs_s h1] at a2 a3
  rw [a2, if_pos rfl] at h2
  have a3 := a3 M w o h3
  rw [if_pos rfl] at a3
  exact ⟨zTs_t h1 a1, _, _, by rw [if_pos rfl]; exact h2, a3⟩
theorem zQE_t {M Y X : pvM} {t c x : Int32} {k : Nat} (h : zEv M Y t) (ht : ¬ t = 0) (hc : zs10 Y (zP10 Y) = c) (n : ¬ c = 33 ∧ ¬ c = 40) (d : zQt (some (pvI x)) Y X) (hx : x = 0) : zQE k (some (pvI 0)) M X := by
  obtain ⟨h1, w, o, h2, h3⟩ := zEv_w h ht hc n
  obtain ⟨a1, b, e, a2, a3⟩ := d
  have e : x = bif b then 1 else 0 := Sum.inl.inj (Option.some.inj e)
  have hb : b = false := by
    cases b
    · rfl
    · rw [hx] at e; exact absurd e (by decide)
  subst hb
  rw [zTs_s h1] at a2
  rw [a2, if_neg Bool.false_ne_true] at h2
  refine ⟨zTs_t h1 a1, false, [], rfl, ?_, fun z => absurd z (by decide)⟩
  unfold zyE
  rw [if_neg Bool.false_ne_true]
  exact h2
/-- an & or a | -/
theorem zEv_s {M Y S A B D : pvM} {t c : Int32} (hoy : pvOk Y) (hos : pvOk S) (h : zEv M Y t) (ht : t = 0) (hn : ¬ Y.1 124 16 ≤ Y.1 124 17) (hc : Y.1 132 (Int32.toNatClampNeg (Y.1 124 17)) = c) (hc2 : c = 38 ∨ c = 124) (d : zSe (Y.1 132 (Int32.toNatClampNeg (Y.1 124 17))) Y S) (ts : zTv Y S ∧ S.1 124 17 = Y.1 124 17) (e1 : A = pvu S 139 (Int32.toNatClampNeg (S.1 124 28)) (Y.1 132 (Int32.toNatClampNeg (Y.1 124 17)))) (e2 : B = pvu A 124 28 (A.1 124 28 + 1)) (e3 : D = pvu B 124 17 (B.1 124 17 + 1)) : zEv M D 1 := by
  obtain ⟨h1, w, o, h2, h3⟩ := h
  rw [hc] at d e1
  have k := d M w o h3
  have b17 : B.1 124 17 = Y.1 124 17 := ((pvu_n e2 124 17 (Or.inr (by decide))).trans (pvu_n e1 124 17 (Or.inl (by decide)))).trans ts.2
  obtain ⟨b1, b2⟩ := zat_1 (X := D) hoy hn (by rw [pvu_s e3, b17])
  have f : ∀ a b, a ≠ 139 → (a ≠ 124 ∨ (b ≠ 28 ∧ b ≠ 17)) → D.1 a b = S.1 a b := fun a b k1 k2 => (pvu_n e3 a b (k2.imp id (fun z => z.2))).trans ((pvu_n e2 a b (k2.imp id (fun z => z.1))).trans (pvu_n e1 a b (Or.inl k1)))
  have t2 : zTv Y D := ⟨(f 124 16 (by decide) (by decide)).trans ts.1.1, fun i => (f 132 i (by decide) (Or.inl (by decide))).trans (ts.1.2.1 i), fun _ => by rw [f 124 16 (by decide) (by decide), ts.1.1]; exact b2⟩
  have r28 := pvok_r hos 124 28 (lo := 0) (hi := 101) rfl
  have n33 : ¬ (c = 33 ∨ c = 40) := by rcases hc2 with z | z <;> rw [z] <;> decide
  refine ⟨zTs_t h1 t2, c :: (zse c w o).1, (zse c w o).2, zyR_t h2 (zyR_1 ?_), ?_⟩
  · have s : zs10 M (zP10 Y) = c := by rw [← zTs_s h1, zpk_t hoy hn, hc]
    rw [if_pos ht, zst1_O]
    unfold zsO
    rw [s, if_pos hc2, if_neg (by decide), b1]
  · refine zCW_p (A := A) k (by rcases hc2 with z | z <;> simp [z]) (by omega) e1 ?_ ?_ (f 124 27 (by decide) (by decide)) (fun i => f 138 i (by decide) (Or.inl (by decide))) (fun i => ?_)
    · rw [pvu_n e3 124 28 (Or.inr (by decide)), pvu_s e2, pvu_n e1 124 28 (Or.inl (by decide))]
    · rw [f 124 29 (by decide) (by decide), k.2.2.2.1]
      show _ = ((((if c = 33 ∨ c = 40 then 1 else 0) + zopn (zse c w o).1 : Nat)) : Int)
      rw [if_neg n33, Nat.zero_add]
    · rw [pvu_n e3 139 i (Or.inl (by decide)), pvu_n e2 139 i (Or.inl (by decide))]
/-- behind an operand, no & and no | -/
theorem zEv_o {M Y S A : pvM} {t c : Int32} {k : Nat} (h : zEv M Y t) (ht : t = 0) (hc : zs10 Y (zP10 Y) = c) (n : ¬ c = 38 ∧ ¬ c = 124) (d : zSe 124 Y S) (ts : zTv Y S ∧ S.1 124 17 = Y.1 124 17) (e1 : A = pvu S 137 k (S.1 124 27)) : zTv M A ∧ zP10 A = zP10 Y ∧ A.1 124 17 = Y.1 124 17 ∧ zs10 M (zP10 Y) = c ∧ ∃ w o : List Int32, zyR (zs10 M) (0, [], zP10 M, []) (zsE (zs10 M) (zP10 Y) w o) ∧ zCW M A w o ∧ ∀ a w', w = a :: w' → a = 33 ∨ a = 40 := by
  obtain ⟨h1, w, o, h2, h3⟩ := h
  have g := d M w o h3
  have f : ∀ a b, a ≠ 137 → A.1 a b = S.1 a b := fun a b z => pvu_n e1 a b (Or.inl z)
  have t2 : zTv Y A := ⟨(f 124 16 (by decide)).trans ts.1.1, fun i => (f 132 i (by decide)).trans (ts.1.2.1 i), fun z => by rw [f 124 16 (by decide), f 124 17 (by decide)]; exact ts.1.2.2 z⟩
  have a17 : A.1 124 17 = Y.1 124 17 := (f 124 17 (by decide)).trans ts.2
  rw [zTs_s h1] at hc
  refine ⟨zTs_t h1 t2, by unfold zP10; rw [a17], a17, hc, _, _, zyR_t h2 (zyR_1 ?_), zCW_k g (f 124 27 (by decide)) (f 124 28 (by decide)) (f 124 29 (by decide)) (fun i => f 138 i (by decide)) (fun i => f 139 i (by decide)), fun a w' e => ?_⟩
  · rw [if_pos ht, zst1_O]
    unfold zsO
    rw [hc, if_neg (fun z => z.elim n.1 n.2)]
  · obtain ⟨k1, k2⟩ := zse_top e
    have k3 := h3.2.2.2.2.1 a (k2 a (List.mem_cons_self ..))
    rcases k3 with z | z | z | z
    · exact Or.inl z
    · exact Or.inr z
    · exact absurd (Or.inl z) k1
    · exact absurd (Or.inr ⟨z, by decide⟩) k1
theorem zQE_y {M Y S A : pvM} {t c : Int32} {k : Nat} (h : zEv M Y t) (ht : t = 0) (hc : zs10 Y (zP10 Y) = c) (n : ¬ c = 38 ∧ ¬ c = 124) (d : zSe 124 Y S) (ts : zTv Y S ∧ S.1 124 17 = Y.1 124 17) (e1 : A = pvu S 137 k (S.1 124 27)) (hw : A.1 124 28 = 0) (hf : A.1 136 k = M.1 124 27) : zQE k (some (pvI 1)) M A := by
  obtain ⟨h1, h2, h3, h4, w, o, h5, h6, h7⟩ := zEv_o h ht hc n d ts e1
  have hl : w = [] := by
    have := h6.2.1
    rw [hw] at this
    cases w with
    | nil => rfl
    | cons a w =>
      exfalso
      have u : (0 : Int32).toInt = 0 := by decide
      rw [List.length_cons, u] at this
      omega
  subst hl
  refine ⟨h1, true, o, rfl, ?_, fun _ => ⟨hf, ?_, h6.2.2.2.2.2.1, h6.2.2.2.2.2.2⟩⟩
  · unfold zyE
    rw [if_pos rfl, h2]
    exact h5
  · rw [pvu_s e1, pvu_n e1 124 27 (Or.inl (by decide))]
theorem zEv_ne {M Y A : pvM} {w o : List Int32} (h : zCW M A w o) (hw : ¬ A.1 124 28 = 0) : ∃ (a : Int32) (w' : List Int32), w = a :: w' := by
  cases w with
  | nil => exact absurd ((zi_eq _ _).mpr (by rw [h.2.1]; rfl)) hw
  | cons a w' => exact ⟨a, w', rfl⟩
theorem zQE_n {M Y S A : pvM} {t c : Int32} {k : Nat} (h : zEv M Y t) (ht : t = 0) (hc : zs10 Y (zP10 Y) = c) (n : ¬ c = 38 ∧ ¬ c = 124) (d : zSe 124 Y S) (ts : zTv Y S ∧ S.1 124 17 = Y.1 124 17) (e1 : A = pvu S 137 k (S.1 124 27)) (hw : ¬ A.1 124 28 = 0) (h41 : ¬ c = 41) : zQE k (some (pvI 0)) M A := by
  obtain ⟨h1, h2, h3, h4, w, o, h5, h6, h7⟩ := zEv_o h ht hc n d ts e1
  obtain ⟨a, w', rfl⟩ := zEv_ne (Y := Y) h6 hw
  refine ⟨h1, false, [], rfl, ?_, fun z => absurd z (by decide)⟩
  unfold zyE
  rw [if_neg Bool.false_ne_true, h2]
  rw [zsE_c, h4, if_neg h41] at h5
  exact h5
theorem zEv_c {M Y S A B C D Z : pvM} {t : Int32} {k : Nat} (hoy : pvOk Y) (hoa : pvOk A) (h : zEv M Y t) (ht : t = 0) (hn : ¬ Y.1 124 16 ≤ Y.1 124 17) (hc : Y.1 132 (Int32.toNatClampNeg (Y.1 124 17)) = 41) (d : zSe 124 Y S) (ts : zTv Y S ∧ S.1 124 17 = Y.1 124 17) (e1 : A = pvu S 137 k (S.1 124 27)) (hw : ¬ A.1 124 28 = 0) (e2 : B = pvu A 124 28 (A.1 124 28 - 1)) (e3 : C = pvu B 124 29 (B.1 124 29 - 1)) (e4 : D = pvu C 124 17 (C.1 124 17 + 1)) (d2 : zWe D Z) (tz : zTv D Z ∧ Z.1 124 17 = D.1 124 17) : zEv M Z 0 := by
  have s : zs10 Y (zP10 Y) = 41 := (zpk_t hoy hn).trans hc
  obtain ⟨h1, h2, h3, h4, w, o, h5, h6, h7⟩ := zEv_o h ht s (by decide) d ts e1
  obtain ⟨a, w', rfl⟩ := zEv_ne (Y := Y) h6 hw
  have ha := h7 a w' rfl
  rw [zsE_c, h4, if_pos rfl] at h5
  have c17 : C.1 124 17 = Y.1 124 17 := ((pvu_n e3 124 17 (Or.inr (by decide))).trans (pvu_n e2 124 17 (Or.inr (by decide)))).trans h3
  obtain ⟨b1, b2⟩ := zat_1 (X := D) hoy hn (by rw [pvu_s e4, c17])
  have f : ∀ a b, (a ≠ 124 ∨ (b ≠ 28 ∧ b ≠ 29 ∧ b ≠ 17)) → D.1 a b = A.1 a b := fun a b k2 => (pvu_n e4 a b (k2.imp id (fun z => z.2.2))).trans ((pvu_n e3 a b (k2.imp id (fun z => z.2.1))).trans (pvu_n e2 a b (k2.imp id (fun z => z.1))))
  have td : zTv A D := ⟨f 124 16 (by decide), fun i => f 132 i (Or.inl (by decide)), fun _ => by
    rw [f 124 16 (by decide)]
    have z : A.1 124 16 = Y.1 124 16 := (pvu_n e1 124 16 (Or.inl (by decide))).trans ts.1.1
    rw [z]
    exact b2⟩
  have p := zCW_pop h6
  have k : zCW M D w' o := by
    have l : 0 < (A.1 124 28).toInt := by rw [h6.2.1, List.length_cons]; omega
    obtain ⟨a', w3, e, t1, t2, t3⟩ := zCW_top h6 l
    have ew : w' = w3 := (List.cons.inj e).2
    obtain ⟨a0, a1, a2, a3, a4, a5, a6⟩ := h6
    have u1 : (1 : Int32).toInt = 1 := by decide
    have z29 : (B.1 124 29).toInt = 1 + (zopn w' : Int) := by
      rw [pvu_n e2 124 29 (Or.inr (by decide)), a3]
      show ((((if a = 33 ∨ a = 40 then 1 else 0) + zopn w' : Nat)) : Int) = _
      rw [if_pos ha]
      omega
    have bb := zbnd (B.1 124 29)
    refine ⟨a0, ?_, fun i z => by rw [f 139 _ (Or.inl (by decide))]; exact p i z, ?_, fun x hx => a4 x (List.mem_cons_of_mem _ hx), by rw [f 124 27 (by decide)]; exact a5, fun i z => by rw [f 138 _ (Or.inl (by decide))]; exact a6 i z⟩
    · rw [pvu_n e4 124 28 (Or.inr (by decide)), pvu_n e3 124 28 (Or.inr (by decide)), pvu_s e2, t3, ew]
    · rw [pvu_n e4 124 29 (Or.inr (by decide)), pvu_s e3, zsub _ _ (by rw [u1]; omega) (by rw [u1]; omega), u1, z29]; omega
  refine ⟨zTs_t (zTs_t h1 td) tz.1, _, _, ?_, d2 M w' o k⟩
  rw [if_pos rfl]
  have pz : zP10 Z = zP10 Y + 1 := by rw [← b1]; unfold zP10; rw [tz.2]
  rw [pz]
  exact h5
