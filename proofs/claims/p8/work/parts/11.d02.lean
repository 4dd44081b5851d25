/-! the language of the texts, with what is laid: one machine by signs (-1: behind the end) -/
def zdig (c : Int32) : Bool := decide (48 ≤ c) && decide (c ≤ 57)
def znu (σ : Nat → Int32) (p : Nat) : Bool × Nat × Int32 := if zdig (σ p) = true then (if zdig (σ (p + 1)) = true then (true, p + 2, ((10 * (σ p - 48)) + σ (p + 1)) - 48) else (true, p + 1, σ p - 48)) else (false, p, 0)
def zlf (c : Int32) : Int32 := if c = 119 then 0 else if c = 107 then 1 else if c = 102 then 2 else if c = 114 then 3 else if c = 115 then 4 else if c = 116 then 5 else -1
def zsg (c : Int32) : Bool := decide (60 ≤ c) && decide (c ≤ 62)
def ztst (σ : Nat → Int32) (p : Nat) : Bool × Nat := if ¬ zlf (σ p) = -1 then (if zsg (σ (p + 1)) = true then ((znu σ (p + 2)).1, (znu σ (p + 2)).2.1) else (false, p + 1)) else (false, p)
/-- a test as each side keeps it -/
def zk9 (σ : Nat → Int32) (p : Nat) : Int32 := (((zlf (σ p) * 3) + (σ (p + 1) - 60)) * 100) + (znu σ (p + 2)).2.2
def zk10 (σ : Nat → Int32) (p : Nat) : Int32 := ((1000 * zlf (σ p)) + (100 * (σ (p + 1) - 60))) + (znu σ (p + 2)).2.2
/-- what is open -/
def zopn : List Int32 → Nat
  | [] => 0
  | a :: w => (if a = 33 ∨ a = 40 then 1 else 0) + zopn w
def zwh : List Int32 → List Int32 → List Int32 × List Int32
  | [], o => ([], o)
  | a :: w, o => if a = 33 then zwh w (o ++ [-33]) else (a :: w, o)
def zse (s : Int32) : List Int32 → List Int32 → List Int32 × List Int32
  | [], o => ([], o)
  | a :: w, o => if a = 38 ∨ (a = 124 ∧ ¬ s = 38) then zse s w (o ++ [-a]) else (a :: w, o)
/-- 0 wants, 1 has, 2 read, 3 not read; what waits (the newest first); the place; what is laid -/
abbrev zCf := Nat × List Int32 × Nat × List Int32
def zsW (σ : Nat → Int32) (w : List Int32) (p : Nat) (o : List Int32) : zCf := if σ p = 33 ∨ σ p = 40 then (if zopn w = 4 then (3, [], p, []) else (0, σ p :: w, p + 1, o)) else if (ztst σ p).1 = true then (1, (zwh w (o ++ [zk10 σ p])).1, (ztst σ p).2, (zwh w (o ++ [zk10 σ p])).2) else (3, [], (ztst σ p).2, [])
def zsE (σ : Nat → Int32) (p : Nat) : List Int32 → List Int32 → zCf
  | [], o => (2, [], p, o)
  | _ :: w, o => if σ p = 41 then (1, (zwh w o).1, p + 1, (zwh w o).2) else (3, [], p, [])
def zsO (σ : Nat → Int32) (w : List Int32) (p : Nat) (o : List Int32) : zCf := if σ p = 38 ∨ σ p = 124 then (0, σ p :: (zse (σ p) w o).1, p + 1, (zse (σ p) w o).2) else zsE σ p (zse 124 w o).1 (zse 124 w o).2
def zst1 (σ : Nat → Int32) (c : zCf) : zCf := if c.1 = 0 then zsW σ c.2.1 c.2.2.1 c.2.2.2 else if c.1 = 1 then zsO σ c.2.1 c.2.2.1 c.2.2.2 else c
def zyit (σ : Nat → Int32) : Nat → zCf → zCf
  | 0, c => c
  | n + 1, c => zyit σ n (zst1 σ c)
def zyR (σ : Nat → Int32) (c e : zCf) : Prop := ∃ n : Nat, zyit σ n c = e
theorem zyit_add (σ : Nat → Int32) : ∀ (n m : Nat) (c : zCf), zyit σ (n + m) c = zyit σ m (zyit σ n c)
  | 0, m, c => by rw [Nat.zero_add]; rfl
  | n + 1, m, c => by
    rw [show n + 1 + m = (n + m) + 1 by omega]
    exact zyit_add σ n m (zst1 σ c)
theorem zyR_r (σ : Nat → Int32) (c : zCf) : zyR σ c c := ⟨0, rfl⟩
theorem zyR_t {σ : Nat → Int32} {a b c : zCf} (h : zyR σ a b) (k : zyR σ b c) : zyR σ a c := by
  obtain ⟨n, h⟩ := h
  obtain ⟨m, k⟩ := k
  exact ⟨n + m, by rw [zyit_add, h, k]⟩
theorem zyR_1 {σ : Nat → Int32} {a b : zCf} (h : zst1 σ a = b) : zyR σ a b := ⟨1, h⟩
theorem zyit_fin {σ : Nat → Int32} {c : zCf} (h : 2 ≤ c.1) : ∀ n : Nat, zyit σ n c = c
  | 0 => rfl
  | n + 1 => by
    have e : zst1 σ c = c := by
      unfold zst1
      rw [if_neg (by omega), if_neg (by omega)]
    show zyit σ n (zst1 σ c) = c
    rw [e]
    exact zyit_fin h n
theorem zyR_d {σ : Nat → Int32} {c a b : zCf} (h : zyR σ c a) (k : zyR σ c b) (ha : 2 ≤ a.1) (hb : 2 ≤ b.1) : a = b := by
  obtain ⟨n, h⟩ := h
  obtain ⟨m, k⟩ := k
  have e1 : zyit σ (n + m) c = a := by rw [zyit_add, h, zyit_fin ha]
  have e2 : zyit σ (n + m) c = b := by rw [Nat.add_comm, zyit_add, k, zyit_fin hb]
  exact e1.symm.trans e2
/-- an E from here ends so: read or not, where, what is laid -/
def zyE (σ : Nat → Int32) (p : Nat) (b : Bool) (q : Nat) (L : List Int32) : Prop := zyR σ (0, [], p, []) (if b = true then (2, [], q, L) else (3, [], q, []))
theorem zyE_d {σ : Nat → Int32} {p q q2 : Nat} {b b2 : Bool} {L L2 : List Int32} (h : zyE σ p b q L) (k : zyE σ p b2 q2 L2) : b = b2 ∧ q = q2 ∧ (b = true → L = L2) := by
  unfold zyE at h k
  have e := zyR_d h k (by cases b <;> simp) (by cases b2 <;> simp)
  cases b <;> cases b2
  · simp at e
    exact ⟨rfl, e, fun z => absurd z (by decide)⟩
  · simp at e
  · simp at e
  · simp at e
    exact ⟨rfl, e.1, fun _ => e.2⟩
def zwd (σ : Nat → Int32) : List Int32 → Nat → Bool × Nat
  | [], p => (true, p)
  | c :: l, p => if σ p = c then zwd σ l (p + 1) else (false, p)
/-- how a clause begins: the word, its signs -/
def zhw (c : Int32) : Option (Nat × List Int32) := if c = 119 then some (0, [119, 101, 116, 32]) else if c = 100 then some (1, [100, 114, 121, 32]) else if c = 115 then some (2, [115, 116, 97, 105, 114, 32]) else if c = 108 then some (3, [108, 97, 115, 116, 32]) else none
/-- a clause from here ends so: read or not, where, which word, which number, what is laid -/
def zCl (σ : Nat → Int32) (p : Nat) (b : Bool) (r w : Nat) (n : Int32) (L : List Int32) : Prop :=
  match zhw (σ p) with
  | none => b = false ∧ r = p
  | some (w', l) => if (zwd σ l p).1 = false then b = false ∧ r = (zwd σ l p).2 else
    if (znu σ (zwd σ l p).2).1 = false then b = false ∧ r = (znu σ (zwd σ l p).2).2.1 else
    if 2 ≤ w' then b = true ∧ r = (znu σ (zwd σ l p).2).2.1 ∧ w = w' ∧ n = (znu σ (zwd σ l p).2).2.2 ∧ L = [] else
    if σ (znu σ (zwd σ l p).2).2.1 = 32 then zyE σ ((znu σ (zwd σ l p).2).2.1 + 1) b r L ∧ w = w' ∧ n = (znu σ (zwd σ l p).2).2.2 else b = false ∧ r = (znu σ (zwd σ l p).2).2.1
theorem zCl_d {σ : Nat → Int32} {p r r2 w w2 : Nat} {b b2 : Bool} {n n2 : Int32} {L L2 : List Int32} (h : zCl σ p b r w n L) (k : zCl σ p b2 r2 w2 n2 L2) : b = b2 ∧ r = r2 ∧ (b = true → w = w2 ∧ n = n2 ∧ L = L2) := by
  unfold zCl at h k
  split at h
  · next e => rw [e] at k; exact ⟨h.1.trans k.1.symm, h.2.trans k.2.symm, fun z => absurd (h.1.symm.trans z) (by decide)⟩
  · next w' l e =>
    rw [e] at k
    dsimp only at k
    split at h
    · next c => rw [if_pos c] at k; exact ⟨h.1.trans k.1.symm, h.2.trans k.2.symm, fun z => absurd (h.1.symm.trans z) (by decide)⟩
    · next c =>
      rw [if_neg c] at k
      split at h
      · next c2 => rw [if_pos c2] at k; exact ⟨h.1.trans k.1.symm, h.2.trans k.2.symm, fun z => absurd (h.1.symm.trans z) (by decide)⟩
      · next c2 =>
        rw [if_neg c2] at k
        split at h
        · next c3 =>
          rw [if_pos c3] at k
          obtain ⟨a1, a2, a3, a4, a5⟩ := h
          obtain ⟨b1, b2, b3, b4, b5⟩ := k
          exact ⟨a1.trans b1.symm, a2.trans b2.symm, fun _ => ⟨a3.trans b3.symm, a4.trans b4.symm, a5.trans b5.symm⟩⟩
        · next c3 =>
          rw [if_neg c3] at k
          split at h
          · next c4 =>
            rw [if_pos c4] at k
            obtain ⟨e1, e2, e3⟩ := zyE_d h.1 k.1
            exact ⟨e1, e2, fun z => ⟨h.2.1.trans k.2.1.symm, h.2.2.trans k.2.2.symm, e3 z⟩⟩
          · next c4 => rw [if_neg c4] at k; exact ⟨h.1.trans k.1.symm, h.2.trans k.2.symm, fun z => absurd (h.1.symm.trans z) (by decide)⟩
/-- a text from a clause on; T: what stands behind a ; -/
def zTXs (σ : Nat → Int32) (T : Nat → Bool → Nat → List (Nat × Int32 × List Int32) → Prop) (m : Bool) (p : Nat) (b : Bool) (q : Nat) (S : List (Nat × Int32 × List Int32)) : Prop := ∃ (c : Bool) (r w : Nat) (n : Int32) (L : List Int32), zCl σ p c r w n L ∧ (if c = false then b = false ∧ q = r else if σ r = -1 then b = true ∧ q = r ∧ S = [(w, n, L)] else if m = true ∧ σ r = 59 then ∃ S2 : List (Nat × Int32 × List Int32), T (r + 1) b q S2 ∧ S = (w, n, L) :: S2 else b = false ∧ q = r)
/-- so many clauses more are allowed behind this one -/
def zTX (σ : Nat → Int32) : Nat → Nat → Bool → Nat → List (Nat × Int32 × List Int32) → Prop
  | 0 => zTXs σ (fun _ _ _ _ => False) false
  | f + 1 => zTXs σ (zTX σ f) true
theorem zTXs_d {σ : Nat → Int32} {T : Nat → Bool → Nat → List (Nat × Int32 × List Int32) → Prop} {m : Bool} (hT : ∀ {p q q2 : Nat} {b b2 : Bool} {S S2 : List (Nat × Int32 × List Int32)}, T p b q S → T p b2 q2 S2 → b = b2 ∧ q = q2 ∧ (b = true → S = S2)) {p q q2 : Nat} {b b2 : Bool} {S S2 : List (Nat × Int32 × List Int32)} (h : zTXs σ T m p b q S) (k : zTXs σ T m p b2 q2 S2) : b = b2 ∧ q = q2 ∧ (b = true → S = S2) := by
  obtain ⟨c, r, w, n, L, h1, h2⟩ := h
  obtain ⟨c', r', w', n', L', k1, k2⟩ := k
  obtain ⟨rfl, rfl, e⟩ := zCl_d h1 k1
  split at h2
  · next u => rw [if_pos u] at k2; exact ⟨h2.1.trans k2.1.symm, h2.2.trans k2.2.symm, fun z => absurd (h2.1.symm.trans z) (by decide)⟩
  · next u =>
    rw [if_neg u] at k2
    obtain ⟨rfl, rfl, rfl⟩ := e (by simpa using u)
    split at h2
    · next u2 => rw [if_pos u2] at k2; exact ⟨h2.1.trans k2.1.symm, h2.2.1.trans k2.2.1.symm, fun _ => h2.2.2.trans k2.2.2.symm⟩
    · next u2 =>
      rw [if_neg u2] at k2
      split at h2
      · next u3 =>
        rw [if_pos u3] at k2
        obtain ⟨A, t1, t2⟩ := h2
        obtain ⟨A', t1', t2'⟩ := k2
        obtain ⟨a1, a2, a3⟩ := hT t1 t1'
        exact ⟨a1, a2, fun z => by rw [t2, t2', a3 z]⟩
      · next u3 => rw [if_neg u3] at k2; exact ⟨h2.1.trans k2.1.symm, h2.2.trans k2.2.symm, fun z => absurd (h2.1.symm.trans z) (by decide)⟩
theorem zTX_d {σ : Nat → Int32} : ∀ (f : Nat) {p q q2 : Nat} {b b2 : Bool} {S S2 : List (Nat × Int32 × List Int32)}, zTX σ f p b q S → zTX σ f p b2 q2 S2 → b = b2 ∧ q = q2 ∧ (b = true → S = S2)
  | 0, _, _, _, _, _, _, _, h, k => zTXs_d (T := fun _ _ _ _ => False) (m := false) (fun z => z.elim) h k
  | f + 1, _, _, _, _, _, _, _, h, k => zTXs_d (T := zTX σ f) (m := true) (fun x y => zTX_d f x y) h k
/-! what the steps of a clause say -/
def zcmp (s a n : Int32) : Bool := if s = 0 then decide (a < n) else if s = 1 then decide (a = n) else decide (n < a)
def zps9 (φ : Nat → Int32) (t : Int32) : Bool := if t / 300 < 0 ∨ 6 ≤ t / 300 then false else zcmp (t / 100 - t / 100 / 3 * 3) (φ (Int32.toNatClampNeg (t / 300))) (t - t / 100 * 100)
def zfa (φ : Nat → Int32) (f : Int32) : Int32 := if f = 0 then φ 0 else if f = 1 then φ 1 else if f = 2 then φ 2 else if f = 3 then φ 3 else if f = 4 then φ 4 else φ 5
def zps10 (φ : Nat → Int32) (t : Int32) : Bool := zcmp (t / 100 - t / 100 / 10 * 10) (zfa φ (t / 1000)) (t - t / 100 * 100)
def znot : List Bool → List Bool
  | a :: s => (!a) :: s
  | [] => []
def zand : List Bool → List Bool
  | a :: b :: s => (b && a) :: s
  | s => s
def zor : List Bool → List Bool
  | a :: b :: s => (b || a) :: s
  | s => s
def ze9 (φ : Nat → Int32) (t : Int32) (s : List Bool) : List Bool := if t = -1 then znot s else if t = -2 then zand s else if t = -3 then zor s else zps9 φ t :: s
def ze10 (φ : Nat → Int32) (t : Int32) (s : List Bool) : List Bool := if t = -33 then znot s else if t < 0 then (if t = -38 then zand s else zor s) else zps10 φ t :: s
def zr9 (φ : Nat → Int32) : List Int32 → List Bool → List Bool
  | [], s => s
  | t :: L, s => zr9 φ L (ze9 φ t s)
def zr10 (φ : Nat → Int32) : List Int32 → List Bool → List Bool
  | [], s => s
  | t :: L, s => zr10 φ L (ze10 φ t s)
def zwf9 (t : Int32) (s : List Bool) : Prop := s.length ≤ 30 ∧ (t = -1 → 1 ≤ s.length) ∧ ((t = -2 ∨ t = -3) → 2 ≤ s.length)
def zbd (φ : Nat → Int32) : List Int32 → List Bool → Prop
  | [], _ => True
  | t :: L, s => zwf9 t s ∧ zbd φ L (ze9 φ t s)
theorem zr9_a (φ : Nat → Int32) : ∀ (A B : List Int32) (s : List Bool), zr9 φ (A ++ B) s = zr9 φ B (zr9 φ A s)
  | [], _, _ => rfl
  | t :: A, B, s => zr9_a φ A B (ze9 φ t s)
theorem zr10_a (φ : Nat → Int32) : ∀ (A B : List Int32) (s : List Bool), zr10 φ (A ++ B) s = zr10 φ B (zr10 φ A s)
  | [], _, _ => rfl
  | t :: A, B, s => zr10_a φ A B (ze10 φ t s)
theorem zbd_a (φ : Nat → Int32) : ∀ {A B : List Int32} {s : List Bool}, zbd φ A s → zbd φ B (zr9 φ A s) → zbd φ (A ++ B) s
  | [], _, _, _, h => h
  | _ :: _, _, _, h, k => ⟨h.1, zbd_a φ h.2 k⟩
/-- both say the same, so many at most are on top meanwhile -/
def zSem (h : Nat) (L L' : List Int32) : Prop := ∀ φ : Nat → Int32, ∃ v : Bool, ∀ s : List Bool, zr9 φ L s = v :: s ∧ zr10 φ L' s = v :: s ∧ (s.length + h ≤ 30 → zbd φ L s)
theorem zSem_m {h h' : Nat} {L L' : List Int32} (k : zSem h L L') (e : h ≤ h') : zSem h' L L' := fun φ => by
  obtain ⟨v, k⟩ := k φ
  exact ⟨v, fun s => ⟨(k s).1, (k s).2.1, fun z => (k s).2.2 (by omega)⟩⟩
theorem zSem_n {h : Nat} {L L' : List Int32} (k : zSem h L L') (h1 : 1 ≤ h) : zSem h (L ++ [-1]) (L' ++ [-33]) := fun φ => by
  obtain ⟨v, k⟩ := k φ
  refine ⟨!v, fun s => ?_⟩
  obtain ⟨a, b, c⟩ := k s
  refine ⟨?_, ?_, fun z => zbd_a φ (c z) ?_⟩
  · rw [zr9_a, a]; rfl
  · rw [zr10_a, b]; rfl
  · rw [a]
    refine ⟨⟨?_, fun _ => ?_, fun u => ?_⟩, trivial⟩
    · rw [List.length_cons]; omega
    · rw [List.length_cons]; omega
    · exact absurd u (by decide)
theorem zSem_nn {h : Nat} {L L' : List Int32} (k : zSem h L L') : zSem h L (L' ++ [-33, -33]) := fun φ => by
  obtain ⟨v, k⟩ := k φ
  refine ⟨v, fun s => ?_⟩
  obtain ⟨a, b, c⟩ := k s
  refine ⟨a, ?_, c⟩
  rw [zr10_a, b]
  show (!(!v)) :: s = _
  rw [Bool.not_not]
theorem zSem_k {h : Nat} {L L' : List Int32} (k : zSem h L L') (h1 : 1 ≤ h) : ∀ n : Nat, zSem h (L ++ (if n % 2 = 1 then [-1] else [])) (L' ++ List.replicate n (-33))
  | 0 => by
    rw [if_neg (by decide), List.append_nil]
    show zSem h L (L' ++ [])
    rw [List.append_nil]
    exact k
  | 1 => zSem_n k h1
  | n + 2 => by
    have e : List.replicate (n + 2) (-33 : Int32) = List.replicate n (-33) ++ [-33, -33] := by
      rw [show [(-33 : Int32), -33] = List.replicate 2 (-33) from rfl, List.replicate_append_replicate]
    rw [show (n + 2) % 2 = n % 2 by omega, e, ← List.append_assoc]
    exact zSem_nn (zSem_k k h1 n)
theorem zSem_a {h h1 h2 : Nat} {A A' B B' : List Int32} (k : zSem h1 A A') (j : zSem h2 B B') (e1 : h1 ≤ h) (e2 : h2 + 1 ≤ h) (e3 : 2 ≤ h) : zSem h (A ++ B ++ [-2]) (A' ++ B' ++ [-38]) := fun φ => by
  obtain ⟨v, k⟩ := k φ
  obtain ⟨u, j⟩ := j φ
  refine ⟨v && u, fun s => ?_⟩
  obtain ⟨a, b, c⟩ := k s
  obtain ⟨a2, b2, c2⟩ := j (v :: s)
  refine ⟨?_, ?_, fun z => zbd_a φ (zbd_a φ (c (by omega)) ?_) ?_⟩
  · rw [zr9_a, zr9_a, a, a2]; rfl
  · rw [zr10_a, zr10_a, b, b2]; rfl
  · rw [a]
    exact c2 (by rw [List.length_cons]; omega)
  · rw [zr9_a, a, a2]
    refine ⟨⟨?_, fun u => absurd u (by decide), fun _ => ?_⟩, trivial⟩
    · rw [List.length_cons, List.length_cons]; omega
    · rw [List.length_cons, List.length_cons]; omega
theorem zSem_o {h h1 h2 : Nat} {A A' B B' : List Int32} (k : zSem h1 A A') (j : zSem h2 B B') (e1 : h1 ≤ h) (e2 : h2 + 1 ≤ h) (e3 : 2 ≤ h) : zSem h (A ++ B ++ [-3]) (A' ++ B' ++ [-124]) := fun φ => by
  obtain ⟨v, k⟩ := k φ
  obtain ⟨u, j⟩ := j φ
  refine ⟨v || u, fun s => ?_⟩
  obtain ⟨a, b, c⟩ := k s
  obtain ⟨a2, b2, c2⟩ := j (v :: s)
  refine ⟨?_, ?_, fun z => zbd_a φ (zbd_a φ (c (by omega)) ?_) ?_⟩
  · rw [zr9_a, zr9_a, a, a2]; rfl
  · rw [zr10_a, zr10_a, b, b2]; rfl
  · rw [a]
    exact c2 (by rw [List.length_cons]; omega)
  · rw [zr9_a, a, a2]
    refine ⟨⟨?_, fun u => absurd u (by decide), fun _ => ?_⟩, trivial⟩
    · rw [List.length_cons, List.length_cons]; omega
    · rw [List.length_cons, List.length_cons]; omega
theorem ztk9 : ∀ l, l < 6 → ∀ s, s < 3 → ∀ n, n < 100 → let t := ((((nI l) * 3) + nI s) * 100) + nI n; (0 ≤ t ∧ t / 300 = nI l ∧ t / 100 - t / 100 / 3 * 3 = nI s ∧ t - t / 100 * 100 = nI n) := by decide +kernel
theorem ztk10 : ∀ l, l < 6 → ∀ s, s < 3 → ∀ n, n < 100 → let t := ((1000 * (nI l)) + (100 * nI s)) + nI n; (0 ≤ t ∧ t / 1000 = nI l ∧ t / 100 - t / 100 / 10 * 10 = nI s ∧ t - t / 100 * 100 = nI n) := by decide +kernel
theorem zn6 : ∀ l, l < 6 → ¬ (nI l < 0 ∨ 6 ≤ nI l) ∧ Int32.toNatClampNeg (nI l) = l := by decide
theorem zSem_t {h l s n : Nat} (hl : l < 6) (hs : s < 3) (hn : n < 100) (h1 : 1 ≤ h) : zSem h [((((nI l) * 3) + nI s) * 100) + nI n] [((1000 * (nI l)) + (100 * nI s)) + nI n] := fun φ => by
  obtain ⟨a0, a1, a2, a3⟩ := ztk9 l hl s hs n hn
  obtain ⟨b0, b1, b2, b3⟩ := ztk10 l hl s hs n hn
  generalize ((((nI l) * 3) + nI s) * 100) + nI n = t at *
  generalize ((1000 * (nI l)) + (100 * nI s)) + nI n = t' at *
  have u0 : (0 : Int32).toInt = 0 := by decide
  have n1 : (-1 : Int32).toInt = -1 := by decide
  have n2 : (-2 : Int32).toInt = -2 := by decide
  have n3 : (-3 : Int32).toInt = -3 := by decide
  have n33 : (-33 : Int32).toInt = -33 := by decide
  rw [zi_le, u0] at a0 b0
  have c1 : ¬ t = -1 := by rw [zi_eq, n1]; omega
  have c2 : ¬ t = -2 := by rw [zi_eq, n2]; omega
  have c3 : ¬ t = -3 := by rw [zi_eq, n3]; omega
  have c4 : ¬ t' = -33 := by rw [zi_eq, n33]; omega
  have c5 : ¬ t' < 0 := by rw [zi_lt, u0]; omega
  have d : zps9 φ t = zps10 φ t' := by
    obtain ⟨g1, g2⟩ := zn6 l hl
    unfold zps9 zps10
    rw [a1, a2, a3, b1, b2, b3, if_neg g1, g2]
    congr 1
    have hl2 : l = 0 ∨ l = 1 ∨ l = 2 ∨ l = 3 ∨ l = 4 ∨ l = 5 := by omega
    rcases hl2 with rfl | rfl | rfl | rfl | rfl | rfl <;> rfl
  refine ⟨zps9 φ t, fun s => ⟨?_, ?_, fun z => ⟨⟨?_, fun u => absurd u c1, fun u => u.elim (fun u => absurd u c2) (fun u => absurd u c3)⟩, trivial⟩⟩⟩
  · show ze9 φ t s = _
    unfold ze9
    rw [if_neg c1, if_neg c2, if_neg c3]
  · show ze10 φ t' s = _
    unfold ze10
    rw [if_neg c4, if_neg c5, d]
  · omega
