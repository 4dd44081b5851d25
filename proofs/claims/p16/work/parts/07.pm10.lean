/-! every run of the machine of our own is one of the machine -/
theorem pvE {n j d : Nat} {S : pvS} {r : Option pvV} {M' : pvM} (h : pvEv (n + 1) j d S r M') {op a b c dd : Nat} {v : Int32} {nx : Nat} (ho : pvlook (pvdom j) S.1 = (op, a, b, c, dd, v, nx)) :
    (op < 50 ∧ (pvstep (op, a, b, c, dd, v, nx) S).1 ∧ pvEv n j d (pvstep (op, a, b, c, dd, v, nx) S).2 r M') ∨ (op = 60 ∧ pvif b a nx S (fun S' => pvEv n j d S' r M')) ∨ (op = 61 ∧ pvic b a nx S (fun S' => pvEv n j d S' r M')) ∨ (op = 62 ∧ pvsw (pvSw a) S (fun S' => pvEv n j d S' r M')) ∨
    (op = 80 ∧ ∃ r1 M1, (S.2.2.1.drop c).length ≤ 4 ∧ c ≤ S.2.2.1.length ∧ (dd % 2 = 1 → pvrcv b (S.2.2.1.take c).reverse) ∧ dd / 2 ≤ d ∧ (pvsl (S.2.2.1.take c).reverse).length ≤ pvml b ∧
        pvEv n b (d - dd / 2) (0, pvent (pvml b) (S.2.2.1.take c).reverse, [], S.2.2.2) r1 M1 ∧ pvEv n j d (nx, S.2.1, pvpush r1 (S.2.2.1.drop c), M1) r M') ∨ (op = 81 ∧ pvsx b nx S (fun S' => pvEv n j d S' r M')) ∨ (op = 90 ∧ pvret b S r M') := by
  unfold pvEv at h
  rw [ho] at h
  simp only at h
  split at h
  · next h1 => exact Or.inl ⟨h1, h⟩
  split at h
  · next h1 => exact Or.inr (Or.inl ⟨h1, h⟩)
  split at h
  · next h1 => exact Or.inr (Or.inr (Or.inl ⟨h1, h⟩))
  split at h
  · next h1 => exact Or.inr (Or.inr (Or.inr (Or.inl ⟨h1, h⟩)))
  split at h
  · next h1 => exact Or.inr (Or.inr (Or.inr (Or.inr (Or.inl ⟨h1, h⟩))))
  split at h
  · next h1 => exact Or.inr (Or.inr (Or.inr (Or.inr (Or.inr (Or.inl ⟨h1, h⟩)))))
  split at h
  · next h1 => exact Or.inr (Or.inr (Or.inr (Or.inr (Or.inr (Or.inr ⟨h1, h⟩)))))
  · exact h.elim
theorem pvif_imp {b a nx : Nat} {S : pvS} {F G : pvS → Prop} (h : pvif b a nx S F) (hi : ∀ S', F S' → G S') : pvif b a nx S G := by
  obtain ⟨pc, lo, st, M⟩ := S
  rcases st with _ | ⟨x | _ | _, r⟩
  case cons.inl => exact ⟨fun u => hi _ (h.1 u), fun u => hi _ (h.2 u)⟩
  all_goals exact (h : False).elim
theorem pvic_imp {b a nx : Nat} {S : pvS} {F G : pvS → Prop} (h : pvic b a nx S F) (hi : ∀ S', F S' → G S') : pvic b a nx S G := by
  obtain ⟨pc, lo, st, M⟩ := S
  rcases st with _ | ⟨x | _ | _, _ | ⟨z | _ | _, r⟩⟩
  case cons.inl.cons.inl => exact ⟨fun u => hi _ (h.1 u), fun u => hi _ (h.2 u)⟩
  all_goals exact (h : False).elim
theorem pvsw_imp {L : List (Int32 × Nat) × Nat} {S : pvS} {F G : pvS → Prop} (h : pvsw L S F) (hi : ∀ S', F S' → G S') : pvsw L S G := by
  obtain ⟨pc, lo, st, M⟩ := S
  rcases st with _ | ⟨x | _ | _, r⟩
  case cons.inl => exact ⟨h.choose, h.choose_spec.1, hi _ h.choose_spec.2⟩
  all_goals exact (h : False).elim
/-- the tables hold: proved by parts behind this one -/
def pvTab : Prop := ∀ (j pc : Nat) (o : pvO), (pc, o) ∈ pvdom j → pvchk j pc o = true
/-- all that a body knows of where it runs -/
def pvCx (j : Nat) (p : Program) (s : State) (m : MethodId) (args : Array Value) (meth : Method) (c : Code) (A : Nat → Prop) (D : va_G) (y : Nat → ClassId) (ad : Nat → Nat) : Prop :=
  p.tables.exec = Jvm.exec ∧ c.code = pvcc j ∧ c.maxLocals = pvml j ∧ meth.sig.returnType = pvrt j ∧ (∀ w ∈ zT, w.before args s = true) ∧ s.vm.findClass (pvcn (pvo j)) = some m.cls ∧ meth.locks = false ∧ (∀ q, s.heap.size ≤ q → A q) ∧ zK D y s ∧ zE y A s s.heap ∧ pvadE y ad

theorem pvP_0 {p : Program} {l : Launch} {e : Env} {s : State} {m : MethodId} {args : Array Value} {below : List Frame} {meth : Method} {c : Code} {Q : State → Prop} {D : va_G} {y : Nat → ClassId} {ad : Nat → Nat} {A : Nat → Prop} {j d : Nat} {S : pvS} {a b cx dd nx : Nat} {v : Int32}
    (hc : pvCx j p s m args meth c A D y ad) (hk : pvchk j S.1 (0, a, b, cx, dd, v, nx) = true) (hp : (pvs_load a b nx S).1) (k : pvG p l e (pvrm j d) s m args below meth c Q (pvml j) D y ad A (pvs_load a b nx S).2) : pvG p l e (pvrm j d) s m args below meth c Q (pvml j) D y ad A S := by
  obtain ⟨hx, hb, hml, hr, hts, hown, hlocks, hA, hK, hE, had⟩ := hc
  simp only [pvchk, pvdec, Bool.and_eq_true, Bool.or_eq_true, decide_eq_true_eq] at hk
  exact pvL_load hx hb hp hk.1.1 hk.1.2 hk.2 k
theorem pvP_1 {p : Program} {l : Launch} {e : Env} {s : State} {m : MethodId} {args : Array Value} {below : List Frame} {meth : Method} {c : Code} {Q : State → Prop} {D : va_G} {y : Nat → ClassId} {ad : Nat → Nat} {A : Nat → Prop} {j d : Nat} {S : pvS} {a b cx dd nx : Nat} {v : Int32}
    (hc : pvCx j p s m args meth c A D y ad) (hk : pvchk j S.1 (1, a, b, cx, dd, v, nx) = true) (hp : (pvs_store a b nx S).1) (k : pvG p l e (pvrm j d) s m args below meth c Q (pvml j) D y ad A (pvs_store a b nx S).2) : pvG p l e (pvrm j d) s m args below meth c Q (pvml j) D y ad A S := by
  obtain ⟨hx, hb, hml, hr, hts, hown, hlocks, hA, hK, hE, had⟩ := hc
  simp only [pvchk, pvdec, Bool.and_eq_true, Bool.or_eq_true, decide_eq_true_eq] at hk
  exact pvL_store hx hb hk.1.2 hk.2 hp hk.1.1.1.1 hk.1.1.1.2 hk.1.1.2 k
theorem pvP_2 {p : Program} {l : Launch} {e : Env} {s : State} {m : MethodId} {args : Array Value} {below : List Frame} {meth : Method} {c : Code} {Q : State → Prop} {D : va_G} {y : Nat → ClassId} {ad : Nat → Nat} {A : Nat → Prop} {j d : Nat} {S : pvS} {a b cx dd nx : Nat} {v : Int32}
    (hc : pvCx j p s m args meth c A D y ad) (hk : pvchk j S.1 (2, a, b, cx, dd, v, nx) = true) (hp : (pvs_const v nx S).1) (k : pvG p l e (pvrm j d) s m args below meth c Q (pvml j) D y ad A (pvs_const v nx S).2) : pvG p l e (pvrm j d) s m args below meth c Q (pvml j) D y ad A S := by
  obtain ⟨hx, hb, hml, hr, hts, hown, hlocks, hA, hK, hE, had⟩ := hc
  simp only [pvchk, pvdec, Bool.and_eq_true, Bool.or_eq_true, decide_eq_true_eq] at hk
  refine pvL_const hx hb hk.1.1 hk.1.2 hown ?_ k
  rcases hk.2 with ((h | h) | h) | h
  · exact Or.inl h
  · exact Or.inr (Or.inl h)
  · exact Or.inr (Or.inr (Or.inl h))
  · exact Or.inr (Or.inr (Or.inr ⟨h.1, hts _ (pvK_ok _ h.2)⟩))
theorem pvP_3 {p : Program} {l : Launch} {e : Env} {s : State} {m : MethodId} {args : Array Value} {below : List Frame} {meth : Method} {c : Code} {Q : State → Prop} {D : va_G} {y : Nat → ClassId} {ad : Nat → Nat} {A : Nat → Prop} {j d : Nat} {S : pvS} {a b cx dd nx : Nat} {v : Int32}
    (hc : pvCx j p s m args meth c A D y ad) (hk : pvchk j S.1 (3, a, b, cx, dd, v, nx) = true) (hp : (pvs_lconst b nx S).1) (k : pvG p l e (pvrm j d) s m args below meth c Q (pvml j) D y ad A (pvs_lconst b nx S).2) : pvG p l e (pvrm j d) s m args below meth c Q (pvml j) D y ad A S := by
  obtain ⟨hx, hb, hml, hr, hts, hown, hlocks, hA, hK, hE, had⟩ := hc
  simp only [pvchk, pvdec, Bool.and_eq_true, Bool.or_eq_true, decide_eq_true_eq] at hk
  exact pvL_lconst hx hb hk.1.1 hk.1.2 hown (hk.2.imp id fun h => hts _ (pvKJ_ok _ h)) k
theorem pvP_4 {p : Program} {l : Launch} {e : Env} {s : State} {m : MethodId} {args : Array Value} {below : List Frame} {meth : Method} {c : Code} {Q : State → Prop} {D : va_G} {y : Nat → ClassId} {ad : Nat → Nat} {A : Nat → Prop} {j d : Nat} {S : pvS} {a b cx dd nx : Nat} {v : Int32}
    (hc : pvCx j p s m args meth c A D y ad) (hk : pvchk j S.1 (4, a, b, cx, dd, v, nx) = true) (hp : (pvs_bin b nx S).1) (k : pvG p l e (pvrm j d) s m args below meth c Q (pvml j) D y ad A (pvs_bin b nx S).2) : pvG p l e (pvrm j d) s m args below meth c Q (pvml j) D y ad A S := by
  obtain ⟨hx, hb, hml, hr, hts, hown, hlocks, hA, hK, hE, had⟩ := hc
  simp only [pvchk, pvdec, Bool.and_eq_true, decide_eq_true_eq] at hk
  exact pvL_bin hx hb hp hk.1 hk.2 k
theorem pvP_5 {p : Program} {l : Launch} {e : Env} {s : State} {m : MethodId} {args : Array Value} {below : List Frame} {meth : Method} {c : Code} {Q : State → Prop} {D : va_G} {y : Nat → ClassId} {ad : Nat → Nat} {A : Nat → Prop} {j d : Nat} {S : pvS} {a b cx dd nx : Nat} {v : Int32}
    (hc : pvCx j p s m args meth c A D y ad) (hk : pvchk j S.1 (5, a, b, cx, dd, v, nx) = true) (hp : (pvs_div b nx S).1) (k : pvG p l e (pvrm j d) s m args below meth c Q (pvml j) D y ad A (pvs_div b nx S).2) : pvG p l e (pvrm j d) s m args below meth c Q (pvml j) D y ad A S := by
  obtain ⟨hx, hb, hml, hr, hts, hown, hlocks, hA, hK, hE, had⟩ := hc
  simp only [pvchk, pvdec, Bool.and_eq_true, decide_eq_true_eq] at hk
  exact pvL_div hx hb hp hk.1 hk.2 k
theorem pvP_6 {p : Program} {l : Launch} {e : Env} {s : State} {m : MethodId} {args : Array Value} {below : List Frame} {meth : Method} {c : Code} {Q : State → Prop} {D : va_G} {y : Nat → ClassId} {ad : Nat → Nat} {A : Nat → Prop} {j d : Nat} {S : pvS} {a b cx dd nx : Nat} {v : Int32}
    (hc : pvCx j p s m args meth c A D y ad) (hk : pvchk j S.1 (6, a, b, cx, dd, v, nx) = true) (hp : (pvs_un b nx S).1) (k : pvG p l e (pvrm j d) s m args below meth c Q (pvml j) D y ad A (pvs_un b nx S).2) : pvG p l e (pvrm j d) s m args below meth c Q (pvml j) D y ad A S := by
  obtain ⟨hx, hb, hml, hr, hts, hown, hlocks, hA, hK, hE, had⟩ := hc
  simp only [pvchk, pvdec, Bool.and_eq_true, decide_eq_true_eq] at hk
  exact pvL_un hx hb hp hk.1 hk.2 k
theorem pvP_7 {p : Program} {l : Launch} {e : Env} {s : State} {m : MethodId} {args : Array Value} {below : List Frame} {meth : Method} {c : Code} {Q : State → Prop} {D : va_G} {y : Nat → ClassId} {ad : Nat → Nat} {A : Nat → Prop} {j d : Nat} {S : pvS} {a b cx dd nx : Nat} {v : Int32}
    (hc : pvCx j p s m args meth c A D y ad) (hk : pvchk j S.1 (7, a, b, cx, dd, v, nx) = true) (hp : (pvs_i2l nx S).1) (k : pvG p l e (pvrm j d) s m args below meth c Q (pvml j) D y ad A (pvs_i2l nx S).2) : pvG p l e (pvrm j d) s m args below meth c Q (pvml j) D y ad A S := by
  obtain ⟨hx, hb, hml, hr, hts, hown, hlocks, hA, hK, hE, had⟩ := hc
  simp only [pvchk, pvdec, Bool.and_eq_true, decide_eq_true_eq] at hk
  exact pvL_i2l hx hb hp hk.1 hk.2 k
theorem pvP_8 {p : Program} {l : Launch} {e : Env} {s : State} {m : MethodId} {args : Array Value} {below : List Frame} {meth : Method} {c : Code} {Q : State → Prop} {D : va_G} {y : Nat → ClassId} {ad : Nat → Nat} {A : Nat → Prop} {j d : Nat} {S : pvS} {a b cx dd nx : Nat} {v : Int32}
    (hc : pvCx j p s m args meth c A D y ad) (hk : pvchk j S.1 (8, a, b, cx, dd, v, nx) = true) (hp : (pvs_l2i nx S).1) (k : pvG p l e (pvrm j d) s m args below meth c Q (pvml j) D y ad A (pvs_l2i nx S).2) : pvG p l e (pvrm j d) s m args below meth c Q (pvml j) D y ad A S := by
  obtain ⟨hx, hb, hml, hr, hts, hown, hlocks, hA, hK, hE, had⟩ := hc
  simp only [pvchk, pvdec, Bool.and_eq_true, decide_eq_true_eq] at hk
  exact pvL_l2i hx hb hp hk.1 hk.2 k
theorem pvP_9 {p : Program} {l : Launch} {e : Env} {s : State} {m : MethodId} {args : Array Value} {below : List Frame} {meth : Method} {c : Code} {Q : State → Prop} {D : va_G} {y : Nat → ClassId} {ad : Nat → Nat} {A : Nat → Prop} {j d : Nat} {S : pvS} {a b cx dd nx : Nat} {v : Int32}
    (hc : pvCx j p s m args meth c A D y ad) (hk : pvchk j S.1 (9, a, b, cx, dd, v, nx) = true) (hp : (pvs_lcmp nx S).1) (k : pvG p l e (pvrm j d) s m args below meth c Q (pvml j) D y ad A (pvs_lcmp nx S).2) : pvG p l e (pvrm j d) s m args below meth c Q (pvml j) D y ad A S := by
  obtain ⟨hx, hb, hml, hr, hts, hown, hlocks, hA, hK, hE, had⟩ := hc
  simp only [pvchk, pvdec, Bool.and_eq_true, decide_eq_true_eq] at hk
  exact pvL_lcmp hx hb hp hk.1 hk.2 k
theorem pvP_10 {p : Program} {l : Launch} {e : Env} {s : State} {m : MethodId} {args : Array Value} {below : List Frame} {meth : Method} {c : Code} {Q : State → Prop} {D : va_G} {y : Nat → ClassId} {ad : Nat → Nat} {A : Nat → Prop} {j d : Nat} {S : pvS} {a b cx dd nx : Nat} {v : Int32}
    (hc : pvCx j p s m args meth c A D y ad) (hk : pvchk j S.1 (10, a, b, cx, dd, v, nx) = true) (hp : (pvs_dup nx S).1) (k : pvG p l e (pvrm j d) s m args below meth c Q (pvml j) D y ad A (pvs_dup nx S).2) : pvG p l e (pvrm j d) s m args below meth c Q (pvml j) D y ad A S := by
  obtain ⟨hx, hb, hml, hr, hts, hown, hlocks, hA, hK, hE, had⟩ := hc
  simp only [pvchk, pvdec, Bool.and_eq_true, decide_eq_true_eq] at hk
  exact pvL_dup hx hb hp hk.1 hk.2 k
theorem pvP_11 {p : Program} {l : Launch} {e : Env} {s : State} {m : MethodId} {args : Array Value} {below : List Frame} {meth : Method} {c : Code} {Q : State → Prop} {D : va_G} {y : Nat → ClassId} {ad : Nat → Nat} {A : Nat → Prop} {j d : Nat} {S : pvS} {a b cx dd nx : Nat} {v : Int32}
    (hc : pvCx j p s m args meth c A D y ad) (hk : pvchk j S.1 (11, a, b, cx, dd, v, nx) = true) (hp : (pvs_pop nx S).1) (k : pvG p l e (pvrm j d) s m args below meth c Q (pvml j) D y ad A (pvs_pop nx S).2) : pvG p l e (pvrm j d) s m args below meth c Q (pvml j) D y ad A S := by
  obtain ⟨hx, hb, hml, hr, hts, hown, hlocks, hA, hK, hE, had⟩ := hc
  simp only [pvchk, pvdec, Bool.and_eq_true, decide_eq_true_eq] at hk
  exact pvL_pop hx hb hp hk.1 hk.2 k
theorem pvP_12 {p : Program} {l : Launch} {e : Env} {s : State} {m : MethodId} {args : Array Value} {below : List Frame} {meth : Method} {c : Code} {Q : State → Prop} {D : va_G} {y : Nat → ClassId} {ad : Nat → Nat} {A : Nat → Prop} {j d : Nat} {S : pvS} {a b cx dd nx : Nat} {v : Int32}
    (hc : pvCx j p s m args meth c A D y ad) (hk : pvchk j S.1 (12, a, b, cx, dd, v, nx) = true) (hp : (pvs_dup_x1 nx S).1) (k : pvG p l e (pvrm j d) s m args below meth c Q (pvml j) D y ad A (pvs_dup_x1 nx S).2) : pvG p l e (pvrm j d) s m args below meth c Q (pvml j) D y ad A S := by
  obtain ⟨hx, hb, hml, hr, hts, hown, hlocks, hA, hK, hE, had⟩ := hc
  simp only [pvchk, pvdec, Bool.and_eq_true, decide_eq_true_eq] at hk
  exact pvL_dup_x1 hx hb hp hk.1 hk.2 k
theorem pvP_13 {p : Program} {l : Launch} {e : Env} {s : State} {m : MethodId} {args : Array Value} {below : List Frame} {meth : Method} {c : Code} {Q : State → Prop} {D : va_G} {y : Nat → ClassId} {ad : Nat → Nat} {A : Nat → Prop} {j d : Nat} {S : pvS} {a b cx dd nx : Nat} {v : Int32}
    (hc : pvCx j p s m args meth c A D y ad) (hk : pvchk j S.1 (13, a, b, cx, dd, v, nx) = true) (hp : (pvs_get b cx dd nx S).1) (k : pvG p l e (pvrm j d) s m args below meth c Q (pvml j) D y ad A (pvs_get b cx dd nx S).2) : pvG p l e (pvrm j d) s m args below meth c Q (pvml j) D y ad A S := by
  obtain ⟨hx, hb, hml, hr, hts, hown, hlocks, hA, hK, hE, had⟩ := hc
  simp only [pvchk, pvdec, Bool.and_eq_true, decide_eq_true_eq] at hk
  exact pvL_get hx hb hts hown hK (pvF_ok _ hk.1.2) hk.2 hp hk.1.1.1 hk.1.1.2 k
theorem pvP_14 {p : Program} {l : Launch} {e : Env} {s : State} {m : MethodId} {args : Array Value} {below : List Frame} {meth : Method} {c : Code} {Q : State → Prop} {D : va_G} {y : Nat → ClassId} {ad : Nat → Nat} {A : Nat → Prop} {j d : Nat} {S : pvS} {a b cx dd nx : Nat} {v : Int32}
    (hc : pvCx j p s m args meth c A D y ad) (hk : pvchk j S.1 (14, a, b, cx, dd, v, nx) = true) (hp : (pvs_put b cx dd nx S).1) (k : pvG p l e (pvrm j d) s m args below meth c Q (pvml j) D y ad A (pvs_put b cx dd nx S).2) : pvG p l e (pvrm j d) s m args below meth c Q (pvml j) D y ad A S := by
  obtain ⟨hx, hb, hml, hr, hts, hown, hlocks, hA, hK, hE, had⟩ := hc
  simp only [pvchk, pvdec, Bool.and_eq_true, decide_eq_true_eq] at hk
  exact pvL_put hx hb hts hown hK (pvF_ok _ hk.1.2) hk.2 hp hk.1.1.1 hk.1.1.2 k
theorem pvP_15 {p : Program} {l : Launch} {e : Env} {s : State} {m : MethodId} {args : Array Value} {below : List Frame} {meth : Method} {c : Code} {Q : State → Prop} {D : va_G} {y : Nat → ClassId} {ad : Nat → Nat} {A : Nat → Prop} {j d : Nat} {S : pvS} {a b cx dd nx : Nat} {v : Int32}
    (hc : pvCx j p s m args meth c A D y ad) (hk : pvchk j S.1 (15, a, b, cx, dd, v, nx) = true) (hp : (pvs_ald nx S).1) (k : pvG p l e (pvrm j d) s m args below meth c Q (pvml j) D y ad A (pvs_ald nx S).2) : pvG p l e (pvrm j d) s m args below meth c Q (pvml j) D y ad A S := by
  obtain ⟨hx, hb, hml, hr, hts, hown, hlocks, hA, hK, hE, had⟩ := hc
  simp only [pvchk, pvdec, Bool.and_eq_true, decide_eq_true_eq] at hk
  exact pvL_ald hx hb hK hp hk.1 hk.2 k
theorem pvP_16 {p : Program} {l : Launch} {e : Env} {s : State} {m : MethodId} {args : Array Value} {below : List Frame} {meth : Method} {c : Code} {Q : State → Prop} {D : va_G} {y : Nat → ClassId} {ad : Nat → Nat} {A : Nat → Prop} {j d : Nat} {S : pvS} {a b cx dd nx : Nat} {v : Int32}
    (hc : pvCx j p s m args meth c A D y ad) (hk : pvchk j S.1 (16, a, b, cx, dd, v, nx) = true) (hp : (pvs_zld nx S).1) (k : pvG p l e (pvrm j d) s m args below meth c Q (pvml j) D y ad A (pvs_zld nx S).2) : pvG p l e (pvrm j d) s m args below meth c Q (pvml j) D y ad A S := by
  obtain ⟨hx, hb, hml, hr, hts, hown, hlocks, hA, hK, hE, had⟩ := hc
  simp only [pvchk, pvdec, Bool.and_eq_true, decide_eq_true_eq] at hk
  exact pvL_zld hx hb hK hp hk.1 hk.2 k
theorem pvP_17 {p : Program} {l : Launch} {e : Env} {s : State} {m : MethodId} {args : Array Value} {below : List Frame} {meth : Method} {c : Code} {Q : State → Prop} {D : va_G} {y : Nat → ClassId} {ad : Nat → Nat} {A : Nat → Prop} {j d : Nat} {S : pvS} {a b cx dd nx : Nat} {v : Int32}
    (hc : pvCx j p s m args meth c A D y ad) (hk : pvchk j S.1 (17, a, b, cx, dd, v, nx) = true) (hp : (pvs_lld nx S).1) (k : pvG p l e (pvrm j d) s m args below meth c Q (pvml j) D y ad A (pvs_lld nx S).2) : pvG p l e (pvrm j d) s m args below meth c Q (pvml j) D y ad A S := by
  obtain ⟨hx, hb, hml, hr, hts, hown, hlocks, hA, hK, hE, had⟩ := hc
  simp only [pvchk, pvdec, Bool.and_eq_true, decide_eq_true_eq] at hk
  exact pvL_lld hx hb hK hp hk.1 hk.2 k
theorem pvP_18 {p : Program} {l : Launch} {e : Env} {s : State} {m : MethodId} {args : Array Value} {below : List Frame} {meth : Method} {c : Code} {Q : State → Prop} {D : va_G} {y : Nat → ClassId} {ad : Nat → Nat} {A : Nat → Prop} {j d : Nat} {S : pvS} {a b cx dd nx : Nat} {v : Int32}
    (hc : pvCx j p s m args meth c A D y ad) (hk : pvchk j S.1 (18, a, b, cx, dd, v, nx) = true) (hp : (pvs_rld b nx S).1) (k : pvG p l e (pvrm j d) s m args below meth c Q (pvml j) D y ad A (pvs_rld b nx S).2) : pvG p l e (pvrm j d) s m args below meth c Q (pvml j) D y ad A S := by
  obtain ⟨hx, hb, hml, hr, hts, hown, hlocks, hA, hK, hE, had⟩ := hc
  simp only [pvchk, pvdec, Bool.and_eq_true, decide_eq_true_eq] at hk
  exact pvL_rld hx hb hK hp hk.1 hk.2 k
theorem pvP_19 {p : Program} {l : Launch} {e : Env} {s : State} {m : MethodId} {args : Array Value} {below : List Frame} {meth : Method} {c : Code} {Q : State → Prop} {D : va_G} {y : Nat → ClassId} {ad : Nat → Nat} {A : Nat → Prop} {j d : Nat} {S : pvS} {a b cx dd nx : Nat} {v : Int32}
    (hc : pvCx j p s m args meth c A D y ad) (hk : pvchk j S.1 (19, a, b, cx, dd, v, nx) = true) (hp : (pvs_ast nx S).1) (k : pvG p l e (pvrm j d) s m args below meth c Q (pvml j) D y ad A (pvs_ast nx S).2) : pvG p l e (pvrm j d) s m args below meth c Q (pvml j) D y ad A S := by
  obtain ⟨hx, hb, hml, hr, hts, hown, hlocks, hA, hK, hE, had⟩ := hc
  simp only [pvchk, pvdec, Bool.and_eq_true, decide_eq_true_eq] at hk
  exact pvL_ast hx hb hK hp hk.1 hk.2 k
theorem pvP_20 {p : Program} {l : Launch} {e : Env} {s : State} {m : MethodId} {args : Array Value} {below : List Frame} {meth : Method} {c : Code} {Q : State → Prop} {D : va_G} {y : Nat → ClassId} {ad : Nat → Nat} {A : Nat → Prop} {j d : Nat} {S : pvS} {a b cx dd nx : Nat} {v : Int32}
    (hc : pvCx j p s m args meth c A D y ad) (hk : pvchk j S.1 (20, a, b, cx, dd, v, nx) = true) (hp : (pvs_zst nx S).1) (k : pvG p l e (pvrm j d) s m args below meth c Q (pvml j) D y ad A (pvs_zst nx S).2) : pvG p l e (pvrm j d) s m args below meth c Q (pvml j) D y ad A S := by
  obtain ⟨hx, hb, hml, hr, hts, hown, hlocks, hA, hK, hE, had⟩ := hc
  simp only [pvchk, pvdec, Bool.and_eq_true, decide_eq_true_eq] at hk
  exact pvL_zst hx hb hK hp hk.1 hk.2 k
theorem pvP_21 {p : Program} {l : Launch} {e : Env} {s : State} {m : MethodId} {args : Array Value} {below : List Frame} {meth : Method} {c : Code} {Q : State → Prop} {D : va_G} {y : Nat → ClassId} {ad : Nat → Nat} {A : Nat → Prop} {j d : Nat} {S : pvS} {a b cx dd nx : Nat} {v : Int32}
    (hc : pvCx j p s m args meth c A D y ad) (hk : pvchk j S.1 (21, a, b, cx, dd, v, nx) = true) (hp : (pvs_lst nx S).1) (k : pvG p l e (pvrm j d) s m args below meth c Q (pvml j) D y ad A (pvs_lst nx S).2) : pvG p l e (pvrm j d) s m args below meth c Q (pvml j) D y ad A S := by
  obtain ⟨hx, hb, hml, hr, hts, hown, hlocks, hA, hK, hE, had⟩ := hc
  simp only [pvchk, pvdec, Bool.and_eq_true, decide_eq_true_eq] at hk
  exact pvL_lst hx hb hK hp hk.1 hk.2 k
theorem pvP_22 {p : Program} {l : Launch} {e : Env} {s : State} {m : MethodId} {args : Array Value} {below : List Frame} {meth : Method} {c : Code} {Q : State → Prop} {D : va_G} {y : Nat → ClassId} {ad : Nat → Nat} {A : Nat → Prop} {j d : Nat} {S : pvS} {a b cx dd nx : Nat} {v : Int32}
    (hc : pvCx j p s m args meth c A D y ad) (hk : pvchk j S.1 (22, a, b, cx, dd, v, nx) = true) (hp : (pvs_len b nx S).1) (k : pvG p l e (pvrm j d) s m args below meth c Q (pvml j) D y ad A (pvs_len b nx S).2) : pvG p l e (pvrm j d) s m args below meth c Q (pvml j) D y ad A S := by
  obtain ⟨hx, hb, hml, hr, hts, hown, hlocks, hA, hK, hE, had⟩ := hc
  simp only [pvchk, pvdec, Bool.and_eq_true, decide_eq_true_eq] at hk
  exact pvL_len hx hb hK hp hk.1 hk.2 k
theorem pvP_23 {p : Program} {l : Launch} {e : Env} {s : State} {m : MethodId} {args : Array Value} {below : List Frame} {meth : Method} {c : Code} {Q : State → Prop} {D : va_G} {y : Nat → ClassId} {ad : Nat → Nat} {A : Nat → Prop} {j d : Nat} {S : pvS} {a b cx dd nx : Nat} {v : Int32}
    (hc : pvCx j p s m args meth c A D y ad) (hk : pvchk j S.1 (23, a, b, cx, dd, v, nx) = true) (hp : (pvs_goto a S).1) (k : pvG p l e (pvrm j d) s m args below meth c Q (pvml j) D y ad A (pvs_goto a S).2) : pvG p l e (pvrm j d) s m args below meth c Q (pvml j) D y ad A S := by
  obtain ⟨hx, hb, hml, hr, hts, hown, hlocks, hA, hK, hE, had⟩ := hc
  simp only [pvchk, pvdec, decide_eq_true_eq] at hk
  exact pvL_goto hx hb hk k
theorem pvP_24 {p : Program} {l : Launch} {e : Env} {s : State} {m : MethodId} {args : Array Value} {below : List Frame} {meth : Method} {c : Code} {Q : State → Prop} {D : va_G} {y : Nat → ClassId} {ad : Nat → Nat} {A : Nat → Prop} {j d : Nat} {S : pvS} {a b cx dd nx : Nat} {v : Int32}
    (hc : pvCx j p s m args meth c A D y ad) (hk : pvchk j S.1 (24, a, b, cx, dd, v, nx) = true) (hp : (pvs_iinc a v nx S).1) (k : pvG p l e (pvrm j d) s m args below meth c Q (pvml j) D y ad A (pvs_iinc a v nx S).2) : pvG p l e (pvrm j d) s m args below meth c Q (pvml j) D y ad A S := by
  obtain ⟨hx, hb, hml, hr, hts, hown, hlocks, hA, hK, hE, had⟩ := hc
  simp only [pvchk, pvdec, Bool.and_eq_true, decide_eq_true_eq] at hk
  exact pvL_iinc hx hb hk.2 hp hk.1.1 hk.1.2 k
theorem pvP_25 {p : Program} {l : Launch} {e : Env} {s : State} {m : MethodId} {args : Array Value} {below : List Frame} {meth : Method} {c : Code} {Q : State → Prop} {D : va_G} {y : Nat → ClassId} {ad : Nat → Nat} {A : Nat → Prop} {j d : Nat} {S : pvS} {a b cx dd nx : Nat} {v : Int32}
    (hc : pvCx j p s m args meth c A D y ad) (hk : pvchk j S.1 (25, a, b, cx, dd, v, nx) = true) (hp : (pvs_math b nx S).1) (k : pvG p l e (pvrm j d) s m args below meth c Q (pvml j) D y ad A (pvs_math b nx S).2) : pvG p l e (pvrm j d) s m args below meth c Q (pvml j) D y ad A S := by
  obtain ⟨hx, hb, hml, hr, hts, hown, hlocks, hA, hK, hE, had⟩ := hc
  have hfr : ∀ z : Nat, z ≤ pvfr j → z ≤ (pvrm j d).frames := fun z h => Nat.le_trans h (Nat.le_add_right _ _)
  have hlc : ∀ z : Nat, z ≤ pvlc j → z ≤ (pvrm j d).locals := fun z h => Nat.le_trans h (Nat.le_add_right _ _)
  simp only [pvchk, pvdec, Bool.and_eq_true, decide_eq_true_eq] at hk
  exact pvL_math hx hb hml hts hown (pvMa_ok _ hk.1.1.1.2) hk.1.1.2 (hfr _ hk.1.2) (hlc _ hk.2) hp hk.1.1.1.1.1 hk.1.1.1.1.2 k
theorem pvP_26 {p : Program} {l : Launch} {e : Env} {s : State} {m : MethodId} {args : Array Value} {below : List Frame} {meth : Method} {c : Code} {Q : State → Prop} {D : va_G} {y : Nat → ClassId} {ad : Nat → Nat} {A : Nat → Prop} {j d : Nat} {S : pvS} {a b cx dd nx : Nat} {v : Int32}
    (hc : pvCx j p s m args meth c A D y ad) (hk : pvchk j S.1 (26, a, b, cx, dd, v, nx) = true) (hp : (pvs_copy b nx S).1) (k : pvG p l e (pvrm j d) s m args below meth c Q (pvml j) D y ad A (pvs_copy b nx S).2) : pvG p l e (pvrm j d) s m args below meth c Q (pvml j) D y ad A S := by
  obtain ⟨hx, hb, hml, hr, hts, hown, hlocks, hA, hK, hE, had⟩ := hc
  have hfr : ∀ z : Nat, z ≤ pvfr j → z ≤ (pvrm j d).frames := fun z h => Nat.le_trans h (Nat.le_add_right _ _)
  have hlc : ∀ z : Nat, z ≤ pvlc j → z ≤ (pvrm j d).locals := fun z h => Nat.le_trans h (Nat.le_add_right _ _)
  simp only [pvchk, pvdec, Bool.and_eq_true, decide_eq_true_eq] at hk
  exact pvL_copy hx hb hml hts hown hK (pvAc_ok _ hk.1.1.2) (hfr _ hk.1.2) (hlc _ hk.2) hp hk.1.1.1.1 hk.1.1.1.2 k
theorem pvP_27 {p : Program} {l : Launch} {e : Env} {s : State} {m : MethodId} {args : Array Value} {below : List Frame} {meth : Method} {c : Code} {Q : State → Prop} {D : va_G} {y : Nat → ClassId} {ad : Nat → Nat} {A : Nat → Prop} {j d : Nat} {S : pvS} {a b cx dd nx : Nat} {v : Int32}
    (hc : pvCx j p s m args meth c A D y ad) (hk : pvchk j S.1 (27, a, b, cx, dd, v, nx) = true) (hp : (pvs_gets b nx S).1) (k : pvG p l e (pvrm j d) s m args below meth c Q (pvml j) D y ad A (pvs_gets b nx S).2) : pvG p l e (pvrm j d) s m args below meth c Q (pvml j) D y ad A S := by
  obtain ⟨hx, hb, hml, hr, hts, hown, hlocks, hA, hK, hE, had⟩ := hc
  simp only [pvchk, pvdec, Bool.and_eq_true, decide_eq_true_eq] at hk
  exact pvL_gets hx hb hts hown hE had (pvGs_ok _ hk.1.2) hk.2 hk.1.1.1 hk.1.1.2 k
theorem pvP_28 {p : Program} {l : Launch} {e : Env} {s : State} {m : MethodId} {args : Array Value} {below : List Frame} {meth : Method} {c : Code} {Q : State → Prop} {D : va_G} {y : Nat → ClassId} {ad : Nat → Nat} {A : Nat → Prop} {j d : Nat} {S : pvS} {a b cx dd nx : Nat} {v : Int32}
    (hc : pvCx j p s m args meth c A D y ad) (hk : pvchk j S.1 (28, a, b, cx, dd, v, nx) = true) (hp : (pvs_sld nx S).1) (k : pvG p l e (pvrm j d) s m args below meth c Q (pvml j) D y ad A (pvs_sld nx S).2) : pvG p l e (pvrm j d) s m args below meth c Q (pvml j) D y ad A S := by
  obtain ⟨hx, hb, hml, hr, hts, hown, hlocks, hA, hK, hE, had⟩ := hc
  simp only [pvchk, pvdec, Bool.and_eq_true, decide_eq_true_eq] at hk
  exact pvL_sld hx hb hE had hp hk.1 hk.2 k
theorem pvP_29 {p : Program} {l : Launch} {e : Env} {s : State} {m : MethodId} {args : Array Value} {below : List Frame} {meth : Method} {c : Code} {Q : State → Prop} {D : va_G} {y : Nat → ClassId} {ad : Nat → Nat} {A : Nat → Prop} {j d : Nat} {S : pvS} {a b cx dd nx : Nat} {v : Int32}
    (hc : pvCx j p s m args meth c A D y ad) (hk : pvchk j S.1 (29, a, b, cx, dd, v, nx) = true) (hp : (pvs_slen nx S).1) (k : pvG p l e (pvrm j d) s m args below meth c Q (pvml j) D y ad A (pvs_slen nx S).2) : pvG p l e (pvrm j d) s m args below meth c Q (pvml j) D y ad A S := by
  obtain ⟨hx, hb, hml, hr, hts, hown, hlocks, hA, hK, hE, had⟩ := hc
  simp only [pvchk, pvdec, Bool.and_eq_true, decide_eq_true_eq] at hk
  exact pvL_slen hx hb hE had hp hk.1 hk.2 k
theorem pvP_30 {p : Program} {l : Launch} {e : Env} {s : State} {m : MethodId} {args : Array Value} {below : List Frame} {meth : Method} {c : Code} {Q : State → Prop} {D : va_G} {y : Nat → ClassId} {ad : Nat → Nat} {A : Nat → Prop} {j d : Nat} {S : pvS} {a b cx dd nx : Nat} {v : Int32}
    (hc : pvCx j p s m args meth c A D y ad) (hk : pvchk j S.1 (30, a, b, cx, dd, v, nx) = true) (hp : (pvs_ldcs b nx S).1) (k : pvG p l e (pvrm j d) s m args below meth c Q (pvml j) D y ad A (pvs_ldcs b nx S).2) : pvG p l e (pvrm j d) s m args below meth c Q (pvml j) D y ad A S := by
  obtain ⟨hx, hb, hml, hr, hts, hown, hlocks, hA, hK, hE, had⟩ := hc
  simp only [pvchk, pvdec, Bool.and_eq_true, decide_eq_true_eq] at hk
  rw [hk.2] at hown
  exact pvL_ldcs hx hb hown hE had hk.1.2 hp hk.1.1.1 hk.1.1.2 k
theorem pvL_plain {p : Program} {l : Launch} {e : Env} {s : State} {m : MethodId} {args : Array Value} {below : List Frame} {meth : Method} {c : Code} {Q : State → Prop} {D : va_G} {y : Nat → ClassId} {ad : Nat → Nat} {A : Nat → Prop} {j d : Nat} {S : pvS} {o : pvO}
    (hc : pvCx j p s m args meth c A D y ad) (hk : pvchk j S.1 o = true) (ho : o.1 < 50) (hp : (pvstep o S).1) (k : pvG p l e (pvrm j d) s m args below meth c Q (pvml j) D y ad A (pvstep o S).2) : pvG p l e (pvrm j d) s m args below meth c Q (pvml j) D y ad A S := by
  obtain ⟨op, a, b, cx, dd, v, nx⟩ := o
  by_cases h31 : 31 ≤ op
  · exfalso
    have e : pvstep (op, a, b, cx, dd, v, nx) S = pvbad S := by
      obtain ⟨z, rfl⟩ := Nat.exists_eq_add_of_le h31
      rw [Nat.add_comm]
      rfl
    rw [e] at hp
    exact hp
  have hcase : op = 0 ∨ op = 1 ∨ op = 2 ∨ op = 3 ∨ op = 4 ∨ op = 5 ∨ op = 6 ∨ op = 7 ∨ op = 8 ∨ op = 9 ∨ op = 10 ∨ op = 11 ∨ op = 12 ∨ op = 13 ∨ op = 14 ∨ op = 15 ∨ op = 16 ∨ op = 17 ∨ op = 18 ∨ op = 19 ∨ op = 20 ∨ op = 21 ∨ op = 22 ∨ op = 23 ∨ op = 24 ∨ op = 25 ∨ op = 26 ∨ op = 27 ∨ op = 28 ∨ op = 29 ∨ op = 30 := by omega
  rcases hcase with rfl | rfl | rfl | rfl | rfl | rfl | rfl | rfl | rfl | rfl | rfl | rfl | rfl | rfl | rfl | rfl | rfl | rfl | rfl | rfl | rfl | rfl | rfl | rfl | rfl | rfl | rfl | rfl | rfl | rfl | rfl
  · exact pvP_0 hc hk hp k
  · exact pvP_1 hc hk hp k
  · exact pvP_2 hc hk hp k
  · exact pvP_3 hc hk hp k
  · exact pvP_4 hc hk hp k
  · exact pvP_5 hc hk hp k
  · exact pvP_6 hc hk hp k
  · exact pvP_7 hc hk hp k
  · exact pvP_8 hc hk hp k
  · exact pvP_9 hc hk hp k
  · exact pvP_10 hc hk hp k
  · exact pvP_11 hc hk hp k
  · exact pvP_12 hc hk hp k
  · exact pvP_13 hc hk hp k
  · exact pvP_14 hc hk hp k
  · exact pvP_15 hc hk hp k
  · exact pvP_16 hc hk hp k
  · exact pvP_17 hc hk hp k
  · exact pvP_18 hc hk hp k
  · exact pvP_19 hc hk hp k
  · exact pvP_20 hc hk hp k
  · exact pvP_21 hc hk hp k
  · exact pvP_22 hc hk hp k
  · exact pvP_23 hc hk hp k
  · exact pvP_24 hc hk hp k
  · exact pvP_25 hc hk hp k
  · exact pvP_26 hc hk hp k
  · exact pvP_27 hc hk hp k
  · exact pvP_28 hc hk hp k
  · exact pvP_29 hc hk hp k
  · exact pvP_30 hc hk hp k
