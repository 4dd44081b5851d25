/-! worlds with a tail; constructors of both sides -/
theorem zPD.perm {D : va_G} {A : Nat → Prop} {ws ws' : va_W} {H : Heap} (h : zPD D A ws H) (hp : ws.Perm ws') : zPD D A ws' H := by
  obtain ⟨hP, hD1, hD2⟩ := h
  have hm : ∀ (k : Nat) (q : Nat × va_E), ws'[k]? = some q → ∃ j, ws[j]? = some q := fun k q hk => List.getElem?_of_mem (hp.mem_iff.mpr (List.mem_of_getElem? hk))
  have hn : (ws.map Prod.fst).Nodup := by
    rw [List.Nodup, List.pairwise_iff_getElem]
    intro i j hi hj hij e
    simp only [List.length_map] at hi hj
    simp only [List.getElem_map] at e
    have := hD1 i j _ _ (List.getElem?_eq_getElem hi) (List.getElem?_eq_getElem hj) e
    omega
  have hn' : (ws'.map Prod.fst).Nodup := (hp.map Prod.fst).nodup_iff.mp hn
  rw [List.Nodup, List.pairwise_iff_getElem] at hn'
  refine ⟨fun k q hk => ?_, fun i j p q hi hj e => ?_, fun k q hk => ?_⟩
  · obtain ⟨j, hj⟩ := hm k q hk
    exact hP j q hj
  · obtain ⟨hi1, hi2⟩ := List.getElem?_eq_some_iff.mp hi
    obtain ⟨hj1, hj2⟩ := List.getElem?_eq_some_iff.mp hj
    rcases Nat.lt_trichotomy i j with u | u | u
    · exact (hn' i j (by simpa using hi1) (by simpa using hj1) u (by rw [List.getElem_map, List.getElem_map, hi2, hj2]; exact e)).elim
    · exact u
    · exact (hn' j i (by simpa using hj1) (by simpa using hi1) u (by rw [List.getElem_map, List.getElem_map, hi2, hj2]; exact e.symm)).elim
  · obtain ⟨j, hj⟩ := hm k q hk
    exact hD2 j q hj
theorem zPD.rt {D : va_G} {A : Nat → Prop} {w T x : va_W} {H : Heap} (h : zPD D A ((w ++ T) ++ x) H) : zPD D A ((w ++ x) ++ T) H := h.perm (by
  rw [List.append_assoc, List.append_assoc]
  exact List.Perm.append_left w List.perm_append_comm)
theorem zix {w T : va_W} : ∀ (is : List Nat), (is.all fun i => Nat.blt i w.length) = true → is.map (fun i => (w ++ T)[i]?) = is.map (fun i => w[i]?) := fun is h => List.map_congr_left (fun i hi => by
  have h1 := List.all_eq_true.mp h i hi
  rw [Nat.blt_eq] at h1
  exact List.getElem?_append_left h1)
theorem zit {w T : va_W} : ((List.range T.length).map (· + w.length)).map (fun i => (w ++ T)[i]?) = T.map some := by
  rw [← zrange T, List.map_map]
  refine List.map_congr_left (fun i _ => ?_)
  show (w ++ T)[i + w.length]? = T[i]?
  rw [List.getElem?_append_right (by omega), Nat.add_sub_cancel]
theorem znd_r {n : Nat} : ∀ (is : List Nat) {k : Nat}, (is.all fun i => Nat.blt i k) = true → va_nd is = true → va_nd (is ++ (List.range n).map (· + k)) = true := by
  intro is k h1 h2
  apply znd
  rw [List.nodup_append]
  have hnd : ∀ (l : List Nat), va_nd l = true → l.Nodup := by
    intro l
    induction l with
    | nil => intro _; exact List.nodup_nil
    | cons a l ih =>
      intro h
      simp only [va_nd, Bool.and_eq_true, Bool.not_eq_true'] at h
      refine List.nodup_cons.mpr ⟨fun q => ?_, ih h.2⟩
      have := h.1
      simp [q] at this
  refine ⟨hnd is h2, ?_, ?_⟩
  · have := List.nodup_range (n := n)
    rw [List.Nodup, List.pairwise_map]
    exact List.Pairwise.imp (fun {a b} (q : a ≠ b) => by omega) this
  · intro a ha b hb e
    have h3 := List.all_eq_true.mp h1 a ha
    rw [Nat.blt_eq] at h3
    obtain ⟨i, -, rfl⟩ := List.mem_map.mp hb
    omega
theorem zPD.ts {D : va_G} {A : Nat → Prop} {w w' T : va_W} {H : Heap} (h : zPD D A (w ++ T) H) (is : List Nat) (hn : va_nd is = true) (hb : (is.all fun i => Nat.blt i w.length) = true) (hs : is.map (fun i => w[i]?) = w'.map some) : zPD D A (w' ++ T) H :=
  h.sub (is ++ (List.range T.length).map (· + w.length)) (znd_r is hb hn) (by rw [List.map_append, zix is hb, hs, zit, List.map_append])
section TAIL
variable {p : Program} {l : Launch} {e : Env} {R : Room} {s : State} {m : MethodId} {args : Array Value} {below : List Frame} {meth : Method} {c : Code} {H : Heap} {locs : List Loc} {cells slots pc : Nat} {ls : Array Slot} {D : va_G} {A : Nat → Prop} {S : Type} {Q : State → Prop} {rest : List Value} {wc : va_W} {mc ms : Nat} {av : Array Value} {H0 : Heap} {st0 : List Value}
theorem zgo_vT {post : S → Prop} {w1 : S → va_W} {wa wr T : va_W} (hr : va_Run p l e R s m args below meth c H locs cells slots mc ms (F0 m pc ls st0) rest (zQv D post w1 (va_A wc H.size) av) (va_A wc H.size)) (hS : va_S A H0 H locs) (hA : ∀ q, H0.size ≤ q → A q) (hW : zPD D A (wa ++ T) H) (isC isR : List Nat) (hC : isC.map (fun i => wa[i]?) = wc.map some) (hR : isR.map (fun i => wa[i]?) = wr.map some) (hn : va_nd isR = true) (hdis : (isR.all fun i => !isC.contains i) = true) (hb : (isR.all fun i => Nat.blt i wa.length) = true) (hc : (isC.all fun i => Nat.blt i wa.length) = true)
    (kk : ∀ (u : S) (H1 : Heap) (locs1 : List Loc), post u → zPD D A ((wr ++ T) ++ w1 u) H1 → va_S A H0 H1 locs1 → W p l e R s m args below meth c H1 locs1 (cells + mc) (slots + ms) Q (F0 m (pc + 3) ls rest)) : W p l e R s m args below meth c H locs cells slots Q (F0 m pc ls st0) :=
  zgo_v (wr := wr ++ T) hr hS hA hW isC (isR ++ (List.range T.length).map (· + wa.length)) (by rw [zix isC hc, hC]) (by rw [List.map_append, zix isR hb, hR, zit, List.map_append]) (znd_r isR hb hn) (by
    rw [List.all_append, hdis, Bool.true_and, List.all_eq_true]
    intro i hi
    obtain ⟨j, -, rfl⟩ := List.mem_map.mp hi
    have : ¬ isC.contains (j + wa.length) = true := by
      rw [List.contains_iff_mem]
      intro q
      have h3 := List.all_eq_true.mp hc _ q
      rw [Nat.blt_eq] at h3
      omega
    simpa using this) kk
end TAIL
theorem zup6 {a0 a1 a2 a3 a4 a5 : Nat} {g : Nat → Nat} (h0 : g 0 = a0) (h1 : g 1 = a1) (h2 : g 2 = a2) (h3 : g 3 = a3) (h4 : g 4 = a4) (h5 : g 5 = a5) : (va_up (va_up (va_up (va_up (va_up (va_up (fun _ => none) 0 (some a0)) 1 (some a1)) 2 (some a2)) 3 (some a3)) 4 (some a4)) 5 (some a5)) = (fun i => if i < 6 then some (g i) else none) := by
  funext i
  match i with
  | 0 => simp [va_up, h0]
  | 1 => simp [va_up, h1]
  | 2 => simp [va_up, h2]
  | 3 => simp [va_up, h3]
  | 4 => simp [va_up, h4]
  | 5 => simp [va_up, h5]
  | i + 6 => simp [va_up]
theorem zup7 {a0 a1 a2 a3 a4 a5 a6 : Nat} {g : Nat → Nat} (h0 : g 0 = a0) (h1 : g 1 = a1) (h2 : g 2 = a2) (h3 : g 3 = a3) (h4 : g 4 = a4) (h5 : g 5 = a5) (h6 : g 6 = a6) : (va_up (va_up (va_up (va_up (va_up (va_up (va_up (fun _ => none) 0 (some a0)) 1 (some a1)) 2 (some a2)) 3 (some a3)) 4 (some a4)) 5 (some a5)) 6 (some a6)) = (fun i => if i < 7 then some (g i) else none) := by
  funext i
  match i with
  | 0 => simp [va_up, h0]
  | 1 => simp [va_up, h1]
  | 2 => simp [va_up, h2]
  | 3 => simp [va_up, h3]
  | 4 => simp [va_up, h4]
  | 5 => simp [va_up, h5]
  | 6 => simp [va_up, h6]
  | i + 7 => simp [va_up]
def pvM0r (q : Nat) : Nat → Int32 := match q with
  | 6 => fun k => [0, 0, 0, (-1), nI 21].getD k 0
  | 8 => fun k => [0, 0, 20, 0, 0, 0, 0, 0, nI 22, 0, 0, 0].getD k 0
  | 9 => fun k => [0, 0, 20, 0, 0, 0, 0, 0, nI 23, 0, 0, 0].getD k 0
  | 15 => fun k => [2, 15, 0, 0, 0, 0, 0, 0].getD k 0
  | 16 => fun k => [2, 15, 0, 0, 0, 0, 0, 0].getD k 0
  | 17 => fun k => [2, 15, 0, 0, 0, 0, 0, 0].getD k 0
  | 18 => fun k => [2, 15, 0, 0, 0, 0, 0, 0].getD k 0
  | 19 => fun k => [2, 15, 0, 0, 0, 0, 0, 0].getD k 0
  | 20 => fun k => [2, 15, 0, 0, 0, 0, 0, 0].getD k 0
  | 21 => fun k => [2, 15, 0, 0, 0, 0, 0, 0].getD k 0
  | 22 => fun k => [2, 15, 0, 0, 0, 0, 0, 0].getD k 0
  | 23 => fun k => [2, 15, 0, 0, 0, 0, 0, 0].getD k 0
  | 60 => fun k => [0, 0, 0, 0, 1, 0, 0].getD k 0
  | 61 => fun k => [0, 0, 0, 0, 1, 0, 0].getD k 0
  | 62 => fun k => [0, 0, 0, 0, 1, 0, 0].getD k 0
  | 63 => fun k => [0, 0, 0, 0, 1, 0, 0].getD k 0
  | 64 => fun k => [0, 0, 0, 0, 1, 0, 0].getD k 0
  | 65 => fun k => [0, 0, 0, 0, 1, 0, 0].getD k 0
  | 66 => fun k => [0, 0, 0, 0, 1, 0, 0].getD k 0
  | 74 => fun k => [0, 0, 0, 0, 1, 0, 0].getD k 0
  | 75 => fun k => [0, 0, 0, 0, 1, 0, 0].getD k 0
  | 76 => fun k => [0, 0, 0, 0, 1, 0, 0].getD k 0
  | 77 => fun k => [0, 0, 0, 0, 1, 0, 0].getD k 0
  | 78 => fun k => [0, 0, 0, 0, 1, 0, 0].getD k 0
  | 79 => fun k => [0, 0, 0, 0, 1, 0, 0].getD k 0
  | 80 => fun k => [0, 0, 0, 0, 1, 0, 0].getD k 0
  | 88 => fun k => [(-1), 0, 0].getD k 0
  | 89 => fun k => [(-1), 0, 0].getD k 0
  | 90 => fun k => [(-1), 0, 0].getD k 0
  | 91 => fun k => [(-1), 0, 0].getD k 0
  | 92 => fun k => [(-1), 0, 0].getD k 0
  | 93 => fun k => [(-1), 0, 0].getD k 0
  | 124 => fun k => [0, 0, 0, 20, 0, 0, 0, 0, 0, 0, 0, 0, 0, 0, 0, (-1), 0, 0, 0, 0, 0, 0, 0, 0, 0, 0, 0, 0, 0, 0, 0, 0, 0, 0, 0, 0, 0, 0, 0, 0, 0, 0, 0, 0, 0, 0, 0, (-1), 0, 0, 0, 20, 0, 0, 0, 0, 0, 0, 0, 0, 0, 0, 0, 0, 0, 0, 0, 0, 0, 0, 0, 0, 0, 0, 0, 0].getD k 0
  | 140 => (upd (upd (upd (upd (upd (upd (upd (upd (upd (upd (upd (upd (upd (upd (upd (fun _ => 0) 0 119) 1 101) 2 116) 3 100) 4 114) 5 121) 6 115) 7 116) 8 97) 9 105) 10 114) 11 108) 12 97) 13 115) 14 116)
  | 164 => (upd (upd (upd (upd (upd (upd (fun _ => 0) 0 (-1)) 1 (-1)) 2 (-1)) 3 (-1)) 4 (-1)) 5 (-1))
  | _ => fun _ => 0
def pvM0 : pvM := (pvM0r, fun _ _ => 0)
def pvWX (y : Nat → ClassId) (ad : Nat → Nat) : va_W := (List.range 124).map fun q => (ad q, pvce y ad q (pvM0r q) (fun _ => 0))
def pvWM (y : Nat → ClassId) (z : Nat → Nat) : va_W := (List.range 44).map fun q => (z q, pvce y (fun a => z (a - 124)) (q + 124) (pvM0r (q + 124)) (fun _ => 0))
