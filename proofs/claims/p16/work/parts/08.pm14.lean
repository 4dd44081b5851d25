/-! what holds behind a run, by rules -/
def PW (j d : Nat) (S : pvS) (Q : Option pvV → pvM → Prop) : Prop := ∃ (n : Nat) (r : Option pvV) (M' : pvM), pvEv n j d S r M' ∧ Q r M'
theorem pvI_if {n j d : Nat} {S : pvS} {r : Option pvV} {M' : pvM} {op a b c dd : Nat} {v : Int32} {nx : Nat} (ho : pvlook (pvdom j) S.1 = (op, a, b, c, dd, v, nx)) (h : (op < 50 ∧ (pvstep (op, a, b, c, dd, v, nx) S).1 ∧ pvEv n j d (pvstep (op, a, b, c, dd, v, nx) S).2 r M') ∨ (op = 60 ∧ pvif b a nx S (fun S' => pvEv n j d S' r M')) ∨ (op = 61 ∧ pvic b a nx S (fun S' => pvEv n j d S' r M')) ∨ (op = 62 ∧ pvsw (pvSw a) S (fun S' => pvEv n j d S' r M')) ∨
    (op = 80 ∧ ∃ r1 M1, (S.2.2.1.drop c).length ≤ 4 ∧ c ≤ S.2.2.1.length ∧ (dd % 2 = 1 → pvrcv b (S.2.2.1.take c).reverse) ∧ dd / 2 ≤ d ∧ (pvsl (S.2.2.1.take c).reverse).length ≤ pvml b ∧
        pvEv n b (d - dd / 2) (0, pvent (pvml b) (S.2.2.1.take c).reverse, [], S.2.2.2) r1 M1 ∧ pvEv n j d (nx, S.2.1, pvpush r1 (S.2.2.1.drop c), M1) r M') ∨ (op = 81 ∧ pvsx b nx S (fun S' => pvEv n j d S' r M')) ∨ (op = 90 ∧ pvret b S r M')) : pvEv (n + 1) j d S r M' := by
  unfold pvEv
  rw [ho]
  simp only
  rcases h with ⟨h1, h2⟩ | ⟨rfl, h1⟩ | ⟨rfl, h1⟩ | ⟨rfl, h1⟩ | ⟨rfl, h1⟩ | ⟨rfl, h1⟩ | ⟨rfl, h1⟩
  · rw [if_pos h1]; exact h2
  all_goals (simp only [Nat.reduceLT, Nat.reduceEqDiff, if_true, if_false, ite_true, ite_false]; exact h1)
theorem pv_mono : ∀ {n j d : Nat} {S : pvS} {r : Option pvV} {M' : pvM}, pvEv n j d S r M' → pvEv (n + 1) j d S r M'
  | 0, _, _, _, _, _, h => h.elim
  | n + 1, j, d, S, r, M', h => by
    obtain ⟨op, a, b, c, dd, v, nx, ho⟩ : ∃ op a b c dd v nx, pvlook (pvdom j) S.1 = (op, a, b, c, dd, v, nx) := ⟨_, _, _, _, _, _, _, rfl⟩
    apply pvI_if ho
    rcases pvE h ho with ⟨h1, h2, h3⟩ | ⟨h1, h2⟩ | ⟨h1, h2⟩ | ⟨h1, h2⟩ | ⟨h1, r1, M1, g1, g2, g3, g4, g5, g6, g7⟩ | ⟨h1, h2⟩ | ⟨h1, h2⟩
    · exact Or.inl ⟨h1, h2, pv_mono h3⟩
    · exact Or.inr (Or.inl ⟨h1, pvif_imp h2 fun _ u => pv_mono u⟩)
    · exact Or.inr (Or.inr (Or.inl ⟨h1, pvic_imp h2 fun _ u => pv_mono u⟩))
    · exact Or.inr (Or.inr (Or.inr (Or.inl ⟨h1, pvsw_imp h2 fun _ u => pv_mono u⟩)))
    · exact Or.inr (Or.inr (Or.inr (Or.inr (Or.inl ⟨h1, r1, M1, g1, g2, g3, g4, g5, pv_mono g6, pv_mono g7⟩))))
    · exact Or.inr (Or.inr (Or.inr (Or.inr (Or.inr (Or.inl ⟨h1, pvsx_imp h2 fun _ u => pv_mono u⟩)))))
    · exact Or.inr (Or.inr (Or.inr (Or.inr (Or.inr (Or.inr ⟨h1, h2⟩)))))
theorem pv_mono_le {n m j d : Nat} {S : pvS} {r : Option pvV} {M' : pvM} (h : pvEv n j d S r M') (hm : n ≤ m) : pvEv m j d S r M' := by
  induction hm with
  | refl => exact h
  | step _ ih => exact pv_mono ih
/-- k plain steps at once -/
def pvsteps : Nat → List (Nat × pvO) → pvS → Prop × pvS
  | 0, _, S => (True, S)
  | k + 1, L, (pc, lo, st, M) => match pvlook L pc with
    | (op, a, b, c, dd, v, nx) => bif Nat.blt op 50 then (match pvstep (op, a, b, c, dd, v, nx) (pc, lo, st, M) with
      | (P, S1) => match pvsteps k L S1 with
        | (P2, S2) => (P ∧ P2, S2)) else (False, (pc, lo, st, M))
section PW
variable {j d : Nat} {Q : Option pvV → pvM → Prop} {L : List (Nat × pvO)}
theorem pw_steps (hT : pvdom j = L) : ∀ (k : Nat) (S : pvS), (pvsteps k L S).1 → PW j d (pvsteps k L S).2 Q → PW j d S Q
  | 0, _, _, h => h
  | k + 1, (pc, lo, st, M), hP, h => by
    unfold pvsteps at hP h
    obtain ⟨op, a, b, c, dd, v, nx, ho⟩ : ∃ op a b c dd v nx, pvlook L pc = (op, a, b, c, dd, v, nx) := ⟨_, _, _, _, _, _, _, rfl⟩
    rw [ho] at hP h
    simp only at hP h
    cases hb : Nat.blt op 50 with
    | false => rw [hb] at hP; exact (hP : False).elim
    | true =>
      rw [hb] at hP h
      simp only [cond_true] at hP h
      obtain ⟨n, r, M', h1, h2⟩ := pw_steps hT k _ hP.2 h
      have hlt : op < 50 := by simpa [Nat.blt_eq] using hb
      exact ⟨n + 1, r, M', pvI_if (S := (pc, lo, st, M)) (by rw [hT]; exact ho) (Or.inl ⟨hlt, hP.1, h1⟩), h2⟩
theorem pw_blk (hT : pvdom j = L) (k : Nat) {S S' : pvS} {P : Prop} (h : pvsteps k L S = (P, S')) (hP : P) (kk : PW j d S' Q) : PW j d S Q := by
  apply pw_steps hT k S
  · rw [h]; exact hP
  · rw [h]; exact kk
/-- a block that ends with a write: the memory behind it gets a name -/
theorem pw_blkw (hT : pvdom j = L) (k : Nat) {S : pvS} {P : Prop} {pc : Nat} {lo : List (Option pvV)} {st : List pvV} {M : pvM} (h : pvsteps k L S = (P, pc, lo, st, M)) (hP : P) (kk : ∀ X : pvM, X = M → PW j d (pc, lo, st, X) Q) : PW j d S Q :=
  pw_blk hT k h hP (kk M rfl)
/-- a block that ends with a reference: its place gets a name -/
theorem pw_blkr (hT : pvdom j = L) (k : Nat) {S : pvS} {P : Prop} {pc : Nat} {lo : List (Option pvV)} {st : List pvV} {M : pvM} {z : Nat} (h : pvsteps k L S = (P, pc, lo, pvR z :: st, M)) (hP : P) (kk : ∀ q : Nat, q = z → PW j d (pc, lo, pvR q :: st, M) Q) : PW j d S Q :=
  pw_blk hT k h hP (kk z rfl)
theorem pw_br {S S1 S2 : pvS} {c : Prop} (h : ∀ (n : Nat) (r : Option pvV) (M' : pvM), (c → pvEv n j d S1 r M') → (¬ c → pvEv n j d S2 r M') → pvEv (n + 1) j d S r M') (kt : c → PW j d S1 Q) (kf : ¬ c → PW j d S2 Q) : PW j d S Q := by
  by_cases hc : c
  · obtain ⟨n, r, M', h1, h2⟩ := kt hc
    exact ⟨n + 1, r, M', h n r M' (fun _ => h1) (fun u => absurd hc u), h2⟩
  · obtain ⟨n, r, M', h1, h2⟩ := kf hc
    exact ⟨n + 1, r, M', h n r M' (fun u => absurd u hc) (fun _ => h1), h2⟩
theorem pw_if (hT : pvdom j = L) {pc a b nx : Nat} {lo : List (Option pvV)} {st : List pvV} {M : pvM} {x : Int32} {c : Prop} (ho : pvlook L pc = (60, a, b, 0, 0, 0, nx)) (hc : pvrel b x 0 = c) (kt : c → PW j d (a, lo, st, M) Q) (kf : ¬ c → PW j d (nx, lo, st, M) Q) : PW j d (pc, lo, pvI x :: st, M) Q := by
  subst hc
  exact pw_br (fun n r M' h1 h2 => pvI_if (by rw [hT]; exact ho) (Or.inr (Or.inl ⟨rfl, h1, h2⟩))) kt kf
theorem pw_ic (hT : pvdom j = L) {pc a b nx : Nat} {lo : List (Option pvV)} {st : List pvV} {M : pvM} {x y : Int32} {c : Prop} (ho : pvlook L pc = (61, a, b, 0, 0, 0, nx)) (hc : pvrel b x y = c) (kt : c → PW j d (a, lo, st, M) Q) (kf : ¬ c → PW j d (nx, lo, st, M) Q) : PW j d (pc, lo, pvI y :: pvI x :: st, M) Q := by
  subst hc
  exact pw_br (fun n r M' h1 h2 => pvI_if (by rw [hT]; exact ho) (Or.inr (Or.inr (Or.inl ⟨rfl, h1, h2⟩)))) kt kf
/-- the cases of a switch, one behind the other -/
def pvswP (F : Nat → Prop) (x : Int32) : List (Int32 × Nat) → Nat → Prop
  | [], d => F d
  | (k, t) :: r, d => (x = k → F t) ∧ (¬ x = k → pvswP F x r d)
theorem pvswP_ok {F : Nat → Prop} {x : Int32} {d : Nat} : ∀ {L : List (Int32 × Nat)}, pvswP F x L d → ∃ t, pvswR L d x t ∧ F t
  | [], h => ⟨d, rfl, h⟩
  | (k, t) :: r, h => by
    by_cases e : x = k
    · exact ⟨t, Or.inl ⟨e, rfl⟩, h.1 e⟩
    · obtain ⟨u, h1, h2⟩ := pvswP_ok (h.2 e)
      exact ⟨u, Or.inr ⟨e, h1⟩, h2⟩
theorem pw_sw (hT : pvdom j = L) {pc a : Nat} {lo : List (Option pvV)} {st : List pvV} {M : pvM} {x : Int32} {b c dd nx : Nat} {v : Int32} (ho : pvlook L pc = (62, a, b, c, dd, v, nx)) {sw : List (Int32 × Nat)} {df : Nat} (hs : pvSw a = (sw, df)) (k : pvswP (fun t => PW j d (t, lo, st, M) Q) x sw df) : PW j d (pc, lo, pvI x :: st, M) Q := by
  obtain ⟨t, h1, n, r, M', h2, h3⟩ := pvswP_ok k
  exact ⟨n + 1, r, M', pvI_if (by rw [hT]; exact ho) (Or.inr (Or.inr (Or.inr (Or.inl ⟨rfl, t, by rw [hs]; exact h1, h2⟩)))), h3⟩
theorem pw_call (hT : pvdom j = L) {pc a b c dd nx : Nat} {lo : List (Option pvV)} {st rest : List pvV} {M : pvM} (ho : pvlook L pc = (80, a, b, c, dd, 0, nx)) {as : List pvV} {lo1 : List (Option pvV)} {d1 : Nat} (hst : st.take c = as.reverse) (hrest : st.drop c = rest) (hlen : Nat.ble rest.length 4 = true) (hcl : Nat.ble c st.length = true) (hr : dd % 2 = 1 → pvrcv b as) (hd : dd / 2 ≤ d) (hd1 : d - dd / 2 = d1) (hsl : Nat.ble (pvsl as).length (pvml b) = true) (hlo : pvent (pvml b) as = lo1)
    {Q1 : Option pvV → pvM → Prop} (h1 : PW b d1 (0, lo1, [], M) Q1) (k : ∀ r1 M1, Q1 r1 M1 → PW j d (nx, lo, pvpush r1 rest, M1) Q) : PW j d (pc, lo, st, M) Q := by
  obtain ⟨n1, r1, M1, g1, g2⟩ := h1
  obtain ⟨n2, r, M', g3, g4⟩ := k r1 M1 g2
  subst hrest; subst hd1; subst hlo
  have e : (st.take c).reverse = as := by rw [hst, List.reverse_reverse]
  refine ⟨max n1 n2 + 1, r, M', pvI_if (by rw [hT]; exact ho) (Or.inr (Or.inr (Or.inr (Or.inr (Or.inl ⟨rfl, r1, M1, Nat.le_of_ble_eq_true hlen, Nat.le_of_ble_eq_true hcl, ?_, hd, ?_, ?_, pv_mono_le g3 (Nat.le_max_right _ _)⟩))))), g4⟩
  · show dd % 2 = 1 → pvrcv b (st.take c).reverse
    rw [e]; exact hr
  · show (pvsl (st.take c).reverse).length ≤ pvml b
    rw [e]; exact Nat.le_of_ble_eq_true hsl
  · show pvEv _ b (d - dd / 2) (0, pvent (pvml b) (st.take c).reverse, [], M) r1 M1
    rw [e]; exact pv_mono_le g1 (Nat.le_max_left _ _)
theorem pw_sx (hT : pvdom j = L) {a b c dd nx : Nat} {v : Int32} {S : pvS} (ho : pvlook L S.1 = (81, a, b, c, dd, v, nx)) {S' : pvS} (h : ∀ F : pvS → Prop, F S' → pvsx b nx S F) (k : PW j d S' Q) : PW j d S Q := by
  obtain ⟨n, r, M', h1, h2⟩ := k
  exact ⟨n + 1, r, M', pvI_if (by rw [hT]; exact ho) (Or.inr (Or.inr (Or.inr (Or.inr (Or.inr (Or.inl ⟨rfl, h _ h1⟩)))))), h2⟩
theorem pw_ret (hT : pvdom j = L) {a b c dd nx : Nat} {v : Int32} {S : pvS} (ho : pvlook L S.1 = (90, a, b, c, dd, v, nx)) {r : Option pvV} {M' : pvM} (h : pvret b S r M') (hQ : Q r M') : PW j d S Q :=
  ⟨1, r, M', pvI_if (n := 0) (by rw [hT]; exact ho) (Or.inr (Or.inr (Or.inr (Or.inr (Or.inr (Or.inr ⟨rfl, h⟩)))))), hQ⟩
theorem pw_imp {S : pvS} {Q1 : Option pvV → pvM → Prop} (h : PW j d S Q1) (hi : ∀ r M', Q1 r M' → Q r M') : PW j d S Q := by
  obtain ⟨n, r, M', h1, h2⟩ := h
  exact ⟨n, r, M', h1, hi r M' h2⟩
end PW
