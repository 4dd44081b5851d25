/-! an F, a T, an E: what the machine does meanwhile, and what the class lays -/
def zwt (w : List Int32) (c : Int32) : Prop := ¬ w.head? = some c
theorem zwt_c {w : List Int32} {a c : Int32} (h : ¬ a = c) : zwt (a :: w) c := fun z => h (Option.some.inj z)
theorem zopn_rep (w : List Int32) : ∀ k : Nat, zopn (List.replicate k 33 ++ w) = k + zopn w
  | 0 => (Nat.zero_add _).symm
  | k + 1 => by
    show (if (33 : Int32) = 33 ∨ (33 : Int32) = 40 then 1 else 0) + zopn (List.replicate k 33 ++ w) = _
    rw [if_pos (Or.inl rfl), zopn_rep w k]
    omega
theorem zwh_0 {w o : List Int32} (h : zwt w 33) : zwh w o = (w, o) := by
  cases w with
  | nil => rfl
  | cons a w => exact if_neg (fun z => h (by rw [z]; rfl))
theorem zwh_rep {w : List Int32} (h : zwt w 33) : ∀ (k : Nat) (o : List Int32), zwh (List.replicate k 33 ++ w) o = (w, o ++ List.replicate k (-33))
  | 0, o => by
    show zwh w o = (w, o ++ [])
    rw [zwh_0 h, List.append_nil]
  | k + 1, o => by
    show (if (33 : Int32) = 33 then zwh (List.replicate k 33 ++ w) (o ++ [-33]) else _) = _
    rw [if_pos rfl, zwh_rep h k, List.append_assoc]
    rfl
theorem zse_0 {s : Int32} {w o : List Int32} (h : zwt w 38) (h2 : s = 38 ∨ zwt w 124) : zse s w o = (w, o) := by
  cases w with
  | nil => rfl
  | cons a w =>
    refine if_neg (fun z => z.elim (fun e => h (by rw [e]; rfl)) (fun e => h2.elim (fun u => e.2 u) (fun u => u (by rw [e.1]; rfl))))
theorem zse_38 (s : Int32) (w o : List Int32) : zse s (38 :: w) o = zse s w (o ++ [-38]) := if_pos (Or.inl rfl)
theorem zse_124 (w o : List Int32) : zse 124 (124 :: w) o = zse 124 w (o ++ [-124]) := if_pos (Or.inr ⟨rfl, by decide⟩)
theorem zst1_W (σ : Nat → Int32) (w : List Int32) (p : Nat) (o : List Int32) : zst1 σ (0, w, p, o) = zsW σ w p o := rfl
theorem zst1_O (σ : Nat → Int32) (w : List Int32) (p : Nat) (o : List Int32) : zst1 σ (1, w, p, o) = zsO σ w p o := rfl
theorem zlf_r {c : Int32} (h : ¬ zlf c = -1) : (∃ l : Nat, l < 6 ∧ zlf c = nI l) ∧ ¬ (c = 33 ∨ c = 40) := by
  refine ⟨?_, fun z => z.elim (fun e => h (by rw [e]; decide)) (fun e => h (by rw [e]; decide))⟩
  unfold zlf at h ⊢
  by_cases k1 : c = 119
  · exact ⟨0, by decide, by rw [if_pos k1]; rfl⟩
  rw [if_neg k1] at h ⊢
  by_cases k2 : c = 107
  · exact ⟨1, by decide, by rw [if_pos k2]; rfl⟩
  rw [if_neg k2] at h ⊢
  by_cases k3 : c = 102
  · exact ⟨2, by decide, by rw [if_pos k3]; rfl⟩
  rw [if_neg k3] at h ⊢
  by_cases k4 : c = 114
  · exact ⟨3, by decide, by rw [if_pos k4]; rfl⟩
  rw [if_neg k4] at h ⊢
  by_cases k5 : c = 115
  · exact ⟨4, by decide, by rw [if_pos k5]; rfl⟩
  rw [if_neg k5] at h ⊢
  by_cases k6 : c = 116
  · exact ⟨5, by decide, by rw [if_pos k6]; rfl⟩
  rw [if_neg k6] at h
  exact absurd rfl h
theorem zsg_r {c : Int32} (h : zsg c = true) : ∃ s : Nat, s < 3 ∧ c - 60 = nI s := by
  have u1 : (60 : Int32).toInt = 60 := by decide
  have u2 : (62 : Int32).toInt = 62 := by decide
  unfold zsg at h
  rw [Bool.and_eq_true, decide_eq_true_eq, decide_eq_true_eq, zi_le, zi_le, u1, u2] at h
  have e : (c - 60).toInt = c.toInt - 60 := by rw [zsub _ _ (by rw [u1]; omega) (by rw [u1]; omega), u1]
  obtain ⟨s, hs, k⟩ := zpos (x := c - 60) (by rw [e]; omega)
  refine ⟨s, ?_, k⟩
  rw [k, nI_toInt (by omega)] at e
  omega
theorem znu_n {σ : Nat → Int32} {p : Nat} (h : (znu σ p).1 = true) : ∃ n : Nat, n < 100 ∧ (znu σ p).2.2 = nI n := by
  have r := (znu_r h).1
  obtain ⟨n, hn, k⟩ := zpos r.1
  refine ⟨n, ?_, k⟩
  rw [k, nI_toInt (by omega)] at r
  omega
theorem ztst_y {σ : Nat → Int32} {p q : Nat} (h : ztst σ p = (true, q)) : ¬ zlf (σ p) = -1 ∧ zsg (σ (p + 1)) = true ∧ (znu σ (p + 2)).1 = true ∧ q = (znu σ (p + 2)).2.1 := by
  unfold ztst at h
  split at h
  · next a =>
    split at h
    · next b => exact ⟨a, b, congrArg Prod.fst h, (congrArg Prod.snd h).symm⟩
    · exact absurd (congrArg Prod.fst h) (by simp)
  · exact absurd (congrArg Prod.fst h) (by simp)
theorem zk_sem {σ : Nat → Int32} {p q m : Nat} (h : ztst σ p = (true, q)) (h1 : 1 ≤ m) : zSem m [zk9 σ p] [zk10 σ p] ∧ p + 3 ≤ q := by
  obtain ⟨a, b, c, e⟩ := ztst_y h
  obtain ⟨⟨l, hl, el⟩, -⟩ := zlf_r a
  obtain ⟨s, hs, es⟩ := zsg_r b
  obtain ⟨n, hn, en⟩ := znu_n c
  have r := (znu_r c).2
  refine ⟨?_, by omega⟩
  unfold zk9 zk10
  rw [el, es, en]
  exact zSem_t hl hs hn h1
/-- so many ! are read -/
def zOn (d k : Nat) (σ : Nat → Int32) (p p' : Nat) : Prop := p' = p + k ∧ d + k ≤ 4 ∧ ∀ w o : List Int32, zopn w = d → zyR σ (0, w, p, o) (0, List.replicate k 33 ++ w, p', o)
theorem zOn_0 {d : Nat} {σ : Nat → Int32} {p : Nat} (h : d ≤ 4) : zOn d 0 σ p p := ⟨rfl, h, fun _ _ _ => zyR_r _ _⟩
theorem zOn_s {d k : Nat} {σ : Nat → Int32} {p p' : Nat} (h : zOn d k σ p p') (hk : d + k < 4) (c : σ p' = 33) : zOn d (k + 1) σ p (p' + 1) := by
  obtain ⟨h1, h2, h3⟩ := h
  refine ⟨by omega, by omega, fun w o hw => zyR_t (h3 w o hw) (zyR_1 ?_)⟩
  rw [zst1_W]
  unfold zsW
  rw [if_pos (Or.inl c), if_neg (by rw [zopn_rep, hw]; omega), c]
  rfl
def zTO (d : Nat) (σ : Nat → Int32) (p : Nat) (b : Bool) (q : Nat) (L : List Int32) : Prop :=
  if b = true then p < q ∧ p + L.length ≤ q ∧ ∃ L' : List Int32, zSem (1 + 2 * (4 - d)) L L' ∧ ∀ w o : List Int32, zopn w = d → zwt w 33 → zyR σ (0, w, p, o) (1, w, q, o ++ L')
  else ∀ w o : List Int32, zopn w = d → zwt w 33 → zyR σ (0, w, p, o) (3, [], q, [])
def zTT (d : Nat) (σ : Nat → Int32) (p : Nat) (b : Bool) (q : Nat) (L : List Int32) : Prop :=
  if b = true then p < q ∧ p + L.length ≤ q ∧ ¬ σ q = 38 ∧ ∃ L' : List Int32, zSem (2 + 2 * (4 - d)) L L' ∧ ∀ w o : List Int32, zopn w = d → zwt w 33 → zwt w 38 → ∃ w1 o1 : List Int32, zyR σ (0, w, p, o) (1, w1, q, o1) ∧ ∀ s : Int32, zse s w1 o1 = zse s w (o ++ L')
  else ∀ w o : List Int32, zopn w = d → zwt w 33 → zwt w 38 → zyR σ (0, w, p, o) (3, [], q, [])
def zTA (d : Nat) (σ : Nat → Int32) (p : Nat) (b : Bool) (q : Nat) (L : List Int32) : Prop :=
  if b = true then p < q ∧ p + L.length ≤ q ∧ ¬ σ q = 38 ∧ ¬ σ q = 124 ∧ ∃ L' : List Int32, zSem (3 + 2 * (4 - d)) L L' ∧ ∀ w o : List Int32, zopn w = d → zwt w 33 → zwt w 38 → zwt w 124 → ∃ w1 o1 : List Int32, zyR σ (0, w, p, o) (1, w1, q, o1) ∧ zse 124 w1 o1 = (w, o ++ L')
  else ∀ w o : List Int32, zopn w = d → zwt w 33 → zwt w 38 → zwt w 124 → zyR σ (0, w, p, o) (3, [], q, [])
theorem zodd_l (k : Nat) : (if k % 2 = 1 then [(-1 : Int32)] else []).length ≤ k := by
  split
  · next h => show 1 ≤ k; omega
  · exact Nat.zero_le _
theorem zO_t {d k : Nat} {σ : Nat → Int32} {p p' q : Nat} (h : zOn d k σ p p') (t : ztst σ p' = (true, q)) : zTO d σ p true q ([zk9 σ p'] ++ (if k % 2 = 1 then [-1] else [])) := by
  obtain ⟨h1, h2, h3⟩ := h
  obtain ⟨s1, s2⟩ := zk_sem t (show 1 ≤ 1 + 2 * (4 - d) by omega)
  have a := (zlf_r (ztst_y t).1).2
  have l := zodd_l k
  unfold zTO
  rw [if_pos rfl]
  refine ⟨by omega, ?_, [zk10 σ p'] ++ List.replicate k (-33), zSem_k s1 (by omega) k, fun w o hw ht => zyR_t (h3 w o hw) (zyR_1 ?_)⟩
  · rw [List.length_append]
    show p + (1 + _) ≤ q
    omega
  · rw [zst1_W]
    unfold zsW
    rw [if_neg a, t, if_pos rfl, zwh_rep ht, List.append_assoc]
theorem zO_f {d k : Nat} {σ : Nat → Int32} {p p' q : Nat} (h : zOn d k σ p p') (c : d + k < 4 → ¬ σ p' = 33 ∧ ¬ σ p' = 40) (t : ztst σ p' = (false, q)) (L : List Int32) : zTO d σ p false q L := by
  obtain ⟨h1, h2, h3⟩ := h
  unfold zTO
  rw [if_neg Bool.false_ne_true]
  refine fun w o hw ht => zyR_t (h3 w o hw) (zyR_1 ?_)
  rw [zst1_W]
  unfold zsW
  by_cases a : σ p' = 33 ∨ σ p' = 40
  · have e : zopn (List.replicate k 33 ++ w) = 4 := by
      rw [zopn_rep, hw]
      have : ¬ d + k < 4 := fun z => a.elim (c z).1 (c z).2
      omega
    rw [if_pos a, if_pos e]
    have z : zlf (σ p') = -1 := by rcases a with a | a <;> rw [a] <;> decide
    unfold ztst at t
    rw [if_neg (fun u => u z)] at t
    rw [(Prod.mk.inj t).2]
  · rw [if_neg a, t, if_neg Bool.false_ne_true]
/-- a parenthesis is open -/
def zOp (d k : Nat) (σ : Nat → Int32) (p p' : Nat) : Prop := p' = p + k + 1 ∧ d + k < 4 ∧ ∀ w o : List Int32, zopn w = d → zyR σ (0, w, p, o) (0, 40 :: (List.replicate k 33 ++ w), p', o)
theorem zOp_i {d k : Nat} {σ : Nat → Int32} {p p' : Nat} (h : zOn d k σ p p') (hk : d + k < 4) (c : σ p' = 40) : zOp d k σ p (p' + 1) := by
  obtain ⟨h1, h2, h3⟩ := h
  refine ⟨by omega, hk, fun w o hw => zyR_t (h3 w o hw) (zyR_1 ?_)⟩
  rw [zst1_W]
  unfold zsW
  rw [if_pos (Or.inr c), if_neg (by rw [zopn_rep, hw]; omega), c]
theorem zopn_38 {w : List Int32} {d : Nat} (h : zopn w = d) : zopn (38 :: w) = d := (Nat.zero_add _).trans h
theorem zopn_124 {w : List Int32} {d : Nat} (h : zopn w = d) : zopn (124 :: w) = d := (Nat.zero_add _).trans h
theorem zopn_40 (w : List Int32) : zopn (40 :: w) = 1 + zopn w := rfl
theorem zO_pf {d k n : Nat} {σ : Nat → Int32} {p p' q : Nat} {L : List Int32} (h : zOp d k σ p p') (hn : n = d + k + 1) (a : zTA n σ p' false q L) (L2 : List Int32) : zTO d σ p false q L2 := by
  obtain ⟨h1, h2, h3⟩ := h
  unfold zTA at a
  rw [if_neg Bool.false_ne_true] at a
  unfold zTO
  rw [if_neg Bool.false_ne_true]
  exact fun w o hw ht => zyR_t (h3 w o hw) (a _ o (by rw [zopn_40, zopn_rep]; omega) (zwt_c (by decide)) (zwt_c (by decide)) (zwt_c (by decide)))
theorem zO_pn {d k n : Nat} {σ : Nat → Int32} {p p' q : Nat} {L : List Int32} (h : zOp d k σ p p') (hn : n = d + k + 1) (a : zTA n σ p' true q L) (c : ¬ σ q = 41) (L2 : List Int32) : zTO d σ p false q L2 := by
  obtain ⟨h1, h2, h3⟩ := h
  unfold zTA at a
  rw [if_pos rfl] at a
  obtain ⟨a1, a2, a3, a4, L', a5, a6⟩ := a
  unfold zTO
  rw [if_neg Bool.false_ne_true]
  intro w o hw ht
  obtain ⟨w1, o1, b1, b2⟩ := a6 (40 :: (List.replicate k 33 ++ w)) o (by rw [zopn_40, zopn_rep]; omega) (zwt_c (by decide)) (zwt_c (by decide)) (zwt_c (by decide))
  refine zyR_t (h3 w o hw) (zyR_t b1 (zyR_1 ?_))
  rw [zst1_O]
  unfold zsO
  rw [if_neg (fun z => z.elim a3 a4), b2]
  exact if_neg c
theorem zO_py {d k n : Nat} {σ : Nat → Int32} {p p' q : Nat} {L : List Int32} (h : zOp d k σ p p') (hn : n = d + k + 1) (a : zTA n σ p' true q L) (c : σ q = 41) : zTO d σ p true (q + 1) (L ++ (if k % 2 = 1 then [-1] else [])) := by
  obtain ⟨h1, h2, h3⟩ := h
  unfold zTA at a
  rw [if_pos rfl] at a
  obtain ⟨a1, a2, a3, a4, L', a5, a6⟩ := a
  have l := zodd_l k
  unfold zTO
  rw [if_pos rfl]
  refine ⟨by omega, by rw [List.length_append]; omega, L' ++ List.replicate k (-33), zSem_k (zSem_m a5 (by omega)) (by omega) k, fun w o hw ht => ?_⟩
  obtain ⟨w1, o1, b1, b2⟩ := a6 (40 :: (List.replicate k 33 ++ w)) o (by rw [zopn_40, zopn_rep]; omega) (zwt_c (by decide)) (zwt_c (by decide)) (zwt_c (by decide))
  refine zyR_t (h3 w o hw) (zyR_t b1 (zyR_1 ?_))
  rw [zst1_O]
  unfold zsO
  rw [if_neg (fun z => z.elim a3 a4), b2]
  show (if σ q = 41 then _ else _) = _
  rw [if_pos c]
  show (1, (zwh (List.replicate k 33 ++ w) (o ++ L')).1, q + 1, (zwh (List.replicate k 33 ++ w) (o ++ L')).2) = _
  rw [zwh_rep ht, List.append_assoc]
/-- a T so far: so many of its F, and the & behind the last -/
def zLT (d n : Nat) (σ : Nat → Int32) (p p' : Nat) (L : List Int32) : Prop := (n = 0 ∧ p' = p ∧ L = []) ∨ (0 < n ∧ p + 2 * n ≤ p' ∧ p + L.length + 1 ≤ p' ∧ ∃ L' : List Int32, zSem (2 + 2 * (4 - d)) L L' ∧ ∀ w o : List Int32, zopn w = d → zwt w 33 → zwt w 38 → zyR σ (0, w, p, o) (0, 38 :: w, p', o ++ L'))
/-- .. and another F -/
def zLO (d n : Nat) (σ : Nat → Int32) (p q : Nat) (L : List Int32) : Prop := p + 2 * n + 1 ≤ q ∧ p + L.length ≤ q ∧ ∃ L' : List Int32, zSem (2 + 2 * (4 - d)) L L' ∧ ∀ w o : List Int32, zopn w = d → zwt w 33 → zwt w 38 → ∃ w1 o1 : List Int32, zyR σ (0, w, p, o) (1, w1, q, o1) ∧ ∀ s : Int32, zse s w1 o1 = zse s w (o ++ L')
theorem zLT_b {d n : Nat} {σ : Nat → Int32} {p p' : Nat} {L : List Int32} (h : zLT d n σ p p' L) : p + 2 * n ≤ p' ∧ p + L.length ≤ p' ∧ (0 < n → p + L.length + 1 ≤ p') := by
  rcases h with ⟨h1, h2, h3⟩ | ⟨h1, h2, h3, h4⟩
  · subst h1 h2 h3
    exact ⟨Nat.le_refl _, Nat.le_refl _, fun z => absurd z (by decide)⟩
  · exact ⟨h2, by omega, fun _ => h3⟩
theorem zT_f {d n : Nat} {σ : Nat → Int32} {p p' q : Nat} {L L1 : List Int32} (h : zLT d n σ p p' L) (a : zTO d σ p' false q L1) (L2 : List Int32) : zTT d σ p false q L2 := by
  unfold zTO at a
  rw [if_neg Bool.false_ne_true] at a
  unfold zTT
  rw [if_neg Bool.false_ne_true]
  intro w o hw ht h8
  rcases h with ⟨h1, h2, h3⟩ | ⟨h1, h2, h3, L', h4, h5⟩
  · rw [h2] at a
    exact a w o hw ht
  · exact zyR_t (h5 w o hw ht h8) (a (38 :: w) _ (zopn_38 hw) (zwt_c (by decide)))
theorem zT_o {d n : Nat} {σ : Nat → Int32} {p p' q : Nat} {L L1 : List Int32} (h : zLT d n σ p p' L) (a : zTO d σ p' true q L1) : zLO d n σ p q (if n = 0 then L1 else L ++ L1 ++ [-2]) := by
  unfold zTO at a
  rw [if_pos rfl] at a
  obtain ⟨a1, a2, L1', a3, a4⟩ := a
  rcases h with ⟨h1, h2, h3⟩ | ⟨h1, h2, h3, L', h4, h5⟩
  · rw [if_pos h1]
    subst h1 h2
    exact ⟨by omega, a2, L1', zSem_m a3 (by omega), fun w o hw ht h8 => ⟨w, _, a4 w o hw ht, fun s => rfl⟩⟩
  · rw [if_neg (by omega)]
    refine ⟨by omega, by rw [List.length_append, List.length_append]; show p + (L.length + L1.length + 1) ≤ q; omega, L' ++ L1' ++ [-38], zSem_a h4 a3 (Nat.le_refl _) (by omega) (by omega), fun w o hw ht h8 => ⟨38 :: w, _, zyR_t (h5 w o hw ht h8) (a4 (38 :: w) _ (zopn_38 hw) (zwt_c (by decide))), fun s => ?_⟩⟩
    rw [zse_38, List.append_assoc, List.append_assoc, List.append_assoc]
theorem zT_e {d n : Nat} {σ : Nat → Int32} {p q : Nat} {L : List Int32} (h : zLO d n σ p q L) (c : ¬ σ q = 38) : zTT d σ p true q L := by
  obtain ⟨h1, h2, h3⟩ := h
  unfold zTT
  rw [if_pos rfl]
  exact ⟨by omega, h2, c, h3⟩
theorem zT_s {d n : Nat} {σ : Nat → Int32} {p q : Nat} {L : List Int32} (h : zLO d n σ p q L) (c : σ q = 38) : zLT d (n + 1) σ p (q + 1) L := by
  obtain ⟨h1, h2, L', h3, h4⟩ := h
  refine Or.inr ⟨by omega, by omega, by omega, L', h3, fun w o hw ht h8 => ?_⟩
  obtain ⟨w1, o1, b1, b2⟩ := h4 w o hw ht h8
  refine zyR_t b1 (zyR_1 ?_)
  rw [zst1_O]
  unfold zsO
  rw [if_pos (Or.inl c), c, b2, zse_0 h8 (Or.inl rfl)]
/-- an E so far -/
def zMA (d n : Nat) (σ : Nat → Int32) (p p' : Nat) (L : List Int32) : Prop := (n = 0 ∧ p' = p ∧ L = []) ∨ (0 < n ∧ p + 2 * n ≤ p' ∧ p + L.length + 1 ≤ p' ∧ ∃ L' : List Int32, zSem (3 + 2 * (4 - d)) L L' ∧ ∀ w o : List Int32, zopn w = d → zwt w 33 → zwt w 38 → zwt w 124 → zyR σ (0, w, p, o) (0, 124 :: w, p', o ++ L'))
def zMB (d n : Nat) (σ : Nat → Int32) (p q : Nat) (L : List Int32) : Prop := p + 2 * n + 1 ≤ q ∧ p + L.length ≤ q ∧ ¬ σ q = 38 ∧ ∃ L' : List Int32, zSem (3 + 2 * (4 - d)) L L' ∧ ∀ w o : List Int32, zopn w = d → zwt w 33 → zwt w 38 → zwt w 124 → ∃ w1 o1 : List Int32, zyR σ (0, w, p, o) (1, w1, q, o1) ∧ zse 124 w1 o1 = (w, o ++ L')
theorem zMA_b {d n : Nat} {σ : Nat → Int32} {p p' : Nat} {L : List Int32} (h : zMA d n σ p p' L) : p + 2 * n ≤ p' ∧ p + L.length ≤ p' ∧ (0 < n → p + L.length + 1 ≤ p') := by
  rcases h with ⟨h1, h2, h3⟩ | ⟨h1, h2, h3, h4⟩
  · subst h1 h2 h3
    exact ⟨Nat.le_refl _, Nat.le_refl _, fun z => absurd z (by decide)⟩
  · exact ⟨h2, by omega, fun _ => h3⟩
theorem zA_f {d n : Nat} {σ : Nat → Int32} {p p' q : Nat} {L L1 : List Int32} (h : zMA d n σ p p' L) (a : zTT d σ p' false q L1) (L2 : List Int32) : zTA d σ p false q L2 := by
  unfold zTT at a
  rw [if_neg Bool.false_ne_true] at a
  unfold zTA
  rw [if_neg Bool.false_ne_true]
  intro w o hw ht h8 h4
  rcases h with ⟨h1, h2, h3⟩ | ⟨h1, h2, h3, L', h5, h6⟩
  · rw [h2] at a
    exact a w o hw ht h8
  · exact zyR_t (h6 w o hw ht h8 h4) (a (124 :: w) _ (zopn_124 hw) (zwt_c (by decide)) (zwt_c (by decide)))
theorem zA_o {d n : Nat} {σ : Nat → Int32} {p p' q : Nat} {L L1 : List Int32} (h : zMA d n σ p p' L) (a : zTT d σ p' true q L1) : zMB d n σ p q (if n = 0 then L1 else L ++ L1 ++ [-3]) := by
  unfold zTT at a
  rw [if_pos rfl] at a
  obtain ⟨a1, a2, a0, L1', a3, a4⟩ := a
  rcases h with ⟨h1, h2, h3⟩ | ⟨h1, h2, h3, L', h4, h5⟩
  · rw [if_pos h1]
    subst h1 h2
    refine ⟨by omega, a2, a0, L1', zSem_m a3 (by omega), fun w o hw ht h8 h4 => ?_⟩
    obtain ⟨w1, o1, b1, b2⟩ := a4 w o hw ht h8
    exact ⟨w1, o1, b1, by rw [b2, zse_0 h8 (Or.inr h4)]⟩
  · rw [if_neg (by omega)]
    refine ⟨by omega, by rw [List.length_append, List.length_append]; show p + (L.length + L1.length + 1) ≤ q; omega, a0, L' ++ L1' ++ [-124], zSem_o h4 a3 (Nat.le_refl _) (by omega) (by omega), fun w o hw ht h8 h6 => ?_⟩
    obtain ⟨w1, o1, b1, b2⟩ := a4 (124 :: w) (o ++ L') (zopn_124 hw) (zwt_c (by decide)) (zwt_c (by decide))
    exact ⟨w1, o1, zyR_t (h5 w o hw ht h8 h6) b1, by rw [b2, zse_124, zse_0 h8 (Or.inr h6), List.append_assoc, List.append_assoc, List.append_assoc]⟩
theorem zA_e {d n : Nat} {σ : Nat → Int32} {p q : Nat} {L : List Int32} (h : zMB d n σ p q L) (c : ¬ σ q = 124) : zTA d σ p true q L := by
  obtain ⟨h1, h2, h3, h4⟩ := h
  unfold zTA
  rw [if_pos rfl]
  exact ⟨by omega, h2, h3, c, h4⟩
theorem zA_s {d n : Nat} {σ : Nat → Int32} {p q : Nat} {L : List Int32} (h : zMB d n σ p q L) (c : σ q = 124) : zMA d (n + 1) σ p (q + 1) L := by
  obtain ⟨h1, h2, h3, L', h4, h5⟩ := h
  refine Or.inr ⟨by omega, by omega, by omega, L', h4, fun w o hw ht h8 h6 => ?_⟩
  obtain ⟨w1, o1, b1, b2⟩ := h5 w o hw ht h8 h6
  refine zyR_t b1 (zyR_1 ?_)
  rw [zst1_O]
  unfold zsO
  rw [if_pos (Or.inr c), c, b2]
theorem zTA_E {σ : Nat → Int32} {p q : Nat} {b : Bool} {L : List Int32} (h : zTA 0 σ p b q L) : ∃ L' : List Int32, zyE σ p b q L' ∧ (b = true → zSem 11 L L' ∧ p + L.length ≤ q) := by
  unfold zTA at h
  unfold zyE
  have nt : ∀ c : Int32, zwt [] c := fun c z => absurd z (by simp)
  cases b with
  | false =>
    rw [if_neg Bool.false_ne_true] at h
    refine ⟨[], ?_, fun z => absurd z (by decide)⟩
    rw [if_neg Bool.false_ne_true]
    exact h [] [] rfl (nt _) (nt _) (nt _)
  | true =>
    rw [if_pos rfl] at h
    obtain ⟨h1, h2, h3, h4, L', h5, h6⟩ := h
    obtain ⟨w1, o1, b1, b2⟩ := h6 [] [] rfl (nt _) (nt _) (nt _)
    refine ⟨L', ?_, fun _ => ⟨h5, h2⟩⟩
    rw [if_pos rfl]
    refine zyR_t b1 (zyR_1 ?_)
    rw [zst1_O]
    unfold zsO
    rw [if_neg (fun z => z.elim h3 h4), b2]
    rfl
