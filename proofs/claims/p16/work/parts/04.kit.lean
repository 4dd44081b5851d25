/-! own rows: a world's two facts in one, contracts of one shape, calls that join the worlds -/
abbrev zTY (y : Nat → ClassId) : List (ClassId × FieldType) := [(y 0, .int), (y 1, .long), (y 2, .boolean), (y 3, .object "NineWindows$House"), (y 4, .object "NineWindows$Pane"), (y 5, .object "NineWindows$Tape")]
/-- private constructors that a class of the same nest calls: who, its pool's number, whose -/
def zNst : List (String × Nat × MethodName × String) := [("NineWindows", 23, yX5_init, "NineWindows"), ("NineWindows$Reader", 25, yX2_init, "NineWindows"), ("NineWindows$Scene", 41, yX2_init, "NineWindows"), ("NineWindows$Scene", 61, yX4_init, "NineWindows"), ("NineWindows", 53, yX0_init, "NineWindows"), ("NineWindows", 64, yX2_init, "NineWindows"), ("NineWindows", 65, yX8_init, "NineWindows")]
def zK (D : va_G) (y : Nat → ClassId) (U : State) : Prop := va_K D vwCl (zTY y) U ∧ va_AO "NineWindows$House" U ∧ va_AO "NineWindows$Pane" U ∧ va_AO "NineWindows$Tape" U ∧ ∀ q ∈ zNst, va_Nw (.methodLinkNest q.1 q.2.1 q.2.2.1 q.2.2.2) U
theorem zK.warm {D : va_G} {y : Nat → ClassId} {s U : State} (hW : s.WarmedH U.vm) (h : zK D y s) : zK D y U := ⟨va_K.moved hW.alike h.1, va_AO.moved hW.alike h.2.1, va_AO.moved hW.alike h.2.2.1, va_AO.moved hW.alike h.2.2.2.1, fun q hq => va_Nw.warmM hW (h.2.2.2.2 q hq)⟩
theorem zK.same {D : va_G} {y : Nat → ClassId} {u U : State} (hv : u.vm = U.vm) (h : zK D y u) : zK D y U := by
  have hA : u.vm.Alike U.vm := hv ▸ Vm.Alike.refl _
  exact ⟨va_K.moved hA h.1, va_AO.moved hA h.2.1, va_AO.moved hA h.2.2.1, va_AO.moved hA h.2.2.2.1, fun q hq => va_Nw.same rfl hv (h.2.2.2.2 q hq)⟩
def zPD (D : va_G) (A : Nat → Prop) (ws : va_W) (H : Heap) : Prop := va_P D vwCl ws H ∧ va_D A ws
/-- the constants of the Reader: their places in its pool, texts, lengths, bytes -/
def zsi : List Nat := [74, 76, 78, 80, 82, 96, 102]
def zst : List String := ["wet ", "dry ", "stair ", "last ", "", "wkfrst", "<=>"]
def zsl : List Nat := [4, 4, 6, 5, 0, 6, 3]
def zsb : List (List Int32) := [[119, 101, 116, 32], [100, 114, 121, 32], [115, 116, 97, 105, 114, 32], [108, 97, 115, 116, 32], [], [119, 107, 102, 114, 115, 116], [60, 61, 62]]
/-- the static arrays: Kind.ABOVE at y 40, Acts.BODIES at y 41 -/
def zab : List Int32 := [-1, 0, 0, 0, 1, 2, 3]
def zbo : List Int32 := [10, 11, 12, 0, 20, 0, 30, 0, 0, 0, 0, 40, 50, 51, 0, 0, 0, 60, 71, 70, 0]
/-- a static that may be null -/
def zSv (a : Nat) : Value := if a = 0 then .null else .ref (a - 1)
theorem zSv_c (a : Nat) : zSv a = .null ∨ ∃ q, zSv a = .ref q := by
  unfold zSv
  by_cases h : a = 0
  · exact Or.inl (if_pos h)
  · exact Or.inr ⟨a - 1, if_neg h⟩
def zSt (y : Nat → ClassId) (A : Nat → Prop) (U : State) (H : Heap) : Prop := va_Z "NineWindows$Kind" "ABOVE" "[I" (.ref (y 40)) A U H ∧ va_T .int (y 40) 7 (fun j => .int (zab.getD j 0)) A U H ∧ va_Z "NineWindows$Acts" "BODIES" "[I" (.ref (y 41)) A U H ∧ va_T .int (y 41) 21 (fun j => .int (zbo.getD j 0)) A U H ∧ va_Z "java/lang/String" "COMPACT_STRINGS" "Z" (.int 1) A U H ∧ va_Z "jdk/internal/util/Preconditions" "SIOOBE_FORMATTER" "Ljava/util/function/BiFunction;" (zSv (y 42)) A U H
theorem zSt.moved {y : Nat → ClassId} {A : Nat → Prop} {u U : State} {H : Heap} (hv : u.vm.Alike U.vm) (h : zSt y A u H) : zSt y A U H := ⟨va_Z.moved hv h.1, va_T.moved hv h.2.1, va_Z.moved hv h.2.2.1, va_T.moved hv h.2.2.2.1, va_Z.moved hv h.2.2.2.2.1, va_Z.moved hv h.2.2.2.2.2⟩
theorem zSt.down {y : Nat → ClassId} {A B : Nat → Prop} {s : State} {H : Heap} {locs : List Loc} (h : zSt y A s s.heap) (hS : va_S A s.heap H locs) (hF : ∀ q, B q → A q) : zSt y B s H := ⟨(h.1.kept hS.2.1).narrow hF, (h.2.1.kept hS.2.1).narrow hF, (h.2.2.1.kept hS.2.1).narrow hF, (h.2.2.2.1.kept hS.2.1).narrow hF, (h.2.2.2.2.1.kept hS.2.1).narrow hF, (h.2.2.2.2.2.kept hS.2.1).narrow hF⟩
def zE (y : Nat → ClassId) (A : Nat → Prop) (U : State) (H : Heap) : Prop := vk_S 7 zsl zsb (fun i => y (10 + i)) (fun i => y (20 + i)) A U H ∧ (∀ i : Nat, i < 7 → vk_R "NineWindows$Reader" (zsi.getD i 0) (zst.getD i "") (y (10 + i)) U) ∧ zSt y A U H
theorem zE.warm {y : Nat → ClassId} {A : Nat → Prop} {s U : State} {H : Heap} (hW : s.WarmedH U.vm) (h : zE y A s H) : zE y A U H := ⟨vk_S.moved hW.alike h.1, fun i hi => vk_R.warm hW (h.2.1 i hi), h.2.2.moved hW.alike⟩
theorem zE.same {y : Nat → ClassId} {A : Nat → Prop} {u U : State} {H : Heap} (hv : U.vm = u.vm) (h : zE y A u H) : zE y A U H := by
  have hA : u.vm.Alike U.vm := hv ▸ Vm.Alike.refl _
  exact ⟨vk_S.moved hA h.1, fun i hi => vk_R.same hv (h.2.1 i hi), h.2.2.moved hA⟩
theorem zE.down {y : Nat → ClassId} {A B : Nat → Prop} {s : State} {H : Heap} {locs : List Loc} (h : zE y A s s.heap) (hS : va_S A s.heap H locs) (hF : ∀ q, B q → A q) : zE y B s H := ⟨(h.1.kept hS.2.1).narrow hF, h.2.1, h.2.2.down hS hF⟩
def zPre (D : va_G) (y : Nat → ClassId) (w0 : va_W) (sz : Nat) (U : State) : Prop := U.heap.size = sz ∧ va_P D vwCl w0 U.heap ∧ zK D y U ∧ zE y (va_A w0 sz) U U.heap ∧ va_D (fun _ => True) w0
def zM (l : Launch) (D : va_G) (y : Nat → ClassId) (yn : MethodName) (ws : List Cond) (rm : Room) (av : List Value) (w0 : va_W) (Qc : (Nat → Prop) → Array Value → State → Outcome → State → Prop) : Prop :=
  ∀ sz : Nat, Met l yn ws rm (va_Pc av (zPre D y w0 sz)) (Qc (va_A w0 sz)) rm.cells rm.slots (va_A w0 sz)
def zQi {S : Type} (D : va_G) (post : Int32 → S → Prop) (w1 : S → va_W) (A : Nat → Prop) : Array Value → State → Outcome → State → Prop := va_Qi post (fun u t => va_P D vwCl (w1 u) t.heap ∧ va_D A (w1 u)) A
def zQl {S : Type} (D : va_G) (post : Int64 → S → Prop) (w1 : S → va_W) (A : Nat → Prop) : Array Value → State → Outcome → State → Prop := va_Ql post (fun u t => va_P D vwCl (w1 u) t.heap ∧ va_D A (w1 u)) A
def zQv {S : Type} (D : va_G) (post : S → Prop) (w1 : S → va_W) (A : Nat → Prop) : Array Value → State → Outcome → State → Prop := va_Qv post (fun u t => va_P D vwCl (w1 u) t.heap ∧ va_D A (w1 u)) A
def zQr {S : Type} (D : va_G) (post : Nat → S → Prop) (w1 : S → va_W) (A : Nat → Prop) : Array Value → State → Outcome → State → Prop := va_Qr (S := S) (fun _ => True) (fun u a t => post a u ∧ va_P D vwCl (w1 u) t.heap ∧ va_D A (w1 u)) A
theorem zPD.sub {D : va_G} {A : Nat → Prop} {ws ws' : va_W} {H : Heap} (h : zPD D A ws H) (is : List Nat) (hn : va_nd is = true) (hs : is.map (fun i => ws[i]?) = ws'.map some) : zPD D A ws' H := by
  refine ⟨h.1.sub is ?_, h.2.sub is hn hs⟩
  have h1 : is.filterMap (fun i => ws[i]?) = (is.map (fun i => ws[i]?)).filterMap id := by
    rw [List.filterMap_map]; rfl
  rw [h1, hs, List.filterMap_map]
  simp
theorem zgV {own C : String} {idx : Nat} {yn : MethodName} {cd : Cond} (h1 : Cond.methodLink own idx yn ∈ zT) (h2 : Cond.instanceMethod yn ∈ zT) (h3 : Cond.selects C yn yn ∈ zT) (h4 : Cond.initialized C ∈ zT) (h5 : cd ∈ zT) : GoodIn zT (wsV own idx C yn (cd :: zT)) := by
  intro w hw
  have hm : w ∈ zT := by
    simp only [wsV, List.cons_append, List.nil_append, List.mem_cons] at hw
    rcases hw with rfl | rfl | rfl | rfl | rfl | h
    · exact h1
    · exact h2
    · exact h3
    · exact h4
    · exact h5
    · exact h
  exact ⟨hm, (zgin w hm).2⟩
theorem zgS {own : String} {idx : Nat} {yn : MethodName} {cd : Cond} (h1 : Cond.methodLink own idx yn ∈ zT) (h2 : Cond.static yn ∈ zT) (h4 : Cond.initialized yn.cls ∈ zT) (h5 : cd ∈ zT) : GoodIn zT (va_wsS own idx yn (cd :: zT)) := by
  intro w hw
  have hm : w ∈ zT := by
    simp only [va_wsS, List.cons_append, List.nil_append, List.mem_cons] at hw
    rcases hw with rfl | rfl | rfl | rfl | h
    · exact h1
    · exact h2
    · exact h4
    · exact h5
    · exact h
  exact ⟨hm, (zgin w hm).2⟩
theorem zgI {cd : Cond} (h5 : cd ∈ zT) : GoodIn zT (cd :: zT) := by
  intro w hw
  have hm : w ∈ zT := by
    rcases List.mem_cons.mp hw with rfl | h
    · exact h5
    · exact h
  exact ⟨hm, (zgin w hm).2⟩
set_option maxHeartbeats 4000000 in
theorem zent {l : Launch} {D : va_G} {y : Nat → ClassId} {yn : MethodName} {rm : Room} {av : List Value} {w0 : va_W} {Qc : (Nat → Prop) → Array Value → State → Outcome → State → Prop} {cc : ByteArray} {maxL : Nat} {ret : Option FieldType}
    (hy : plainName yn.cls = true) (hlen : (lg_sl av).length ≤ maxL)
    (body : ∀ (p : Program) (e : Env) (s : State) (m : MethodId) (below : List Frame) (meth : Method) (c : Code) (A : Nat → Prop) (H : Heap) (locs : List Loc) (ls : Array Slot),
      p.tables.exec = Jvm.exec → c.code = cc → c.maxLocals = maxL → meth.sig.returnType = ret → (∀ w ∈ zT, w.before av.toArray s = true) → s.vm.findClass yn.cls = some m.cls → meth.locks = false → meth.name = yn.name → (∀ q, s.heap.size ≤ q → A q) → zK D y s → zE y A s s.heap → va_S A s.heap H locs → zPD D A w0 H → lv_has ls maxL (lv_args 0 av) →
      W p l e rm s m av.toArray below meth c H locs 0 0 (MQ below (Qc A) av.toArray s rm.cells rm.slots A) (F0 m 0 ls [])) : zM l D y yn (Cond.code yn cc maxL ret :: zT) rm av w0 Qc := by
  intro sz
  refine Met.ofW (cc := cc) (maxL := maxL) (ret := ret) hy rfl ?_
  intro p e s m args below meth c s₁ B hml hv
  obtain ⟨rfl, hsz, hP, hK, hE, hD0⟩ := hv
  have hx := B.exec
  have hb := B.bytes
  have hr := B.returns
  have hts := atoms_spec (ws := Cond.code yn cc maxL ret :: zT) B.pre
  have hown : s.vm.findClass yn.cls = some m.cls := findClass_of_methodNamed B.named
  have hlocks := B.notSynchronized
  have hin : meth.name = yn.name := (name_of_methodNamed B.named B.method).1
  subst hsz
  have hD := hD0.self (sz := s.heap.size)
  have hl := lv_entry av hlen
  rw [lg_entry_eq]
  exact body p e s m below meth c (va_A w0 s.heap.size) s.heap [] _ hx hb hml hr (fun w h => hts w (List.mem_cons_of_mem _ h)) hown hlocks hin (fun q h => Or.inr h) hK hE va_S.rf ⟨hP, hD⟩ hl
section ZR
variable {p : Program} {l : Launch} {e : Env} {R : Room} {s : State} {m : MethodId} {args : Array Value} {below : List Frame} {meth : Method} {c : Code} {H H0 : Heap} {locs : List Loc} {cells slots : Nat} {Q : State → Prop}
variable {cc : ByteArray} {pc : Nat} {ls : Array Slot} {rest : List Value} {D : va_G} {y : Nat → ClassId} {A : Nat → Prop} {ws : va_W}
theorem ztop {v w : Value} (h : v = w) (k : W p l e R s m args below meth c H locs cells slots Q (F0 m pc ls (w :: rest))) : W p l e R s m args below meth c H locs cells slots Q (F0 m pc ls (v :: rest)) := h ▸ k
theorem zget (hx : p.tables.exec = Jvm.exec) (hb : c.code = cc) {own C : String} {T : u_T} {N ci index : Nat} {Ts : List Cond} {a : Nat} (hts : ∀ w ∈ Ts, w.before args s = true) (hin : ∀ w ∈ u_ws C T N, w ∈ Ts) (hown : s.vm.findClass own = some m.cls) (hK : zK D y s) (hW : zPD D A ws H) (q0 : Nat) {fs : List Value} (he : ws[q0]? = some (a, .inr (ci, fs))) (hc : vwCl[ci]? = some (C, T, N)) (k : Nat) (hk : k < N) (hlink : Cond.fieldLink own index (T k).1 (T k).2.1 (T k).2.2.1 ∈ Ts) {v : Value} (hv : fs[k]? = some v) (hdg : decode cc pc = .ok (.getfield index, 3))
    (kk : W p l e R s m args below meth c H locs cells slots Q (F0 m (pc + 3) ls (v :: rest))) : W p l e R s m args below meth c H locs cells slots Q (F0 m pc ls (.ref a :: rest)) :=
  va_get hx hb hts hin hown hK.1 hW.1 q0 he hc k hk (hts _ hlink) (fun _ h => h) hv hdg kk
theorem zput (hx : p.tables.exec = Jvm.exec) (hb : c.code = cc) {own C : String} {T : u_T} {N ci index : Nat} {Ts : List Cond} {a : Nat} (hts : ∀ w ∈ Ts, w.before args s = true) (hin : ∀ w ∈ u_ws C T N, w ∈ Ts) (ty0 : Nat → FieldType) (hty : ∀ k, k < N → parseFieldDescriptor (T k).2.2.1 = some (ty0 k)) (hnm : ∀ a, a < N → ∀ b, b < N → a ≠ b → (T a).2.1 ≠ (T b).2.1) (hown : s.vm.findClass own = some m.cls) (hK : zK D y s) (hS : va_S A H0 H locs) (hW : zPD D A ws H) (q0 : Nat) {fs : List Value} (he : ws[q0]? = some (a, .inr (ci, fs))) (hc : vwCl[ci]? = some (C, T, N)) (k : Nat) (hk : k < N) (hlink : Cond.fieldLink own index (T k).1 (T k).2.1 (T k).2.2.1 ∈ Ts) (hfin : (T k).2.2.2 = false) {v : Value} (hn : narrow (ty0 k) v = v) (hfit : fits (ty0 k) v = true) (hl : k < fs.length) {ws' : va_W} (hws : ws.set q0 (a, .inr (ci, fs.set k v)) = ws') (hdg : decode cc pc = .ok (.putfield index, 3))
    (kk : ∀ (H1 : Heap) (locs1 : List Loc), zPD D A ws' H1 → va_S A H0 H1 locs1 → W p l e R s m args below meth c H1 locs1 cells slots Q (F0 m (pc + 3) ls rest)) : W p l e R s m args below meth c H locs cells slots Q (F0 m pc ls (v :: .ref a :: rest)) := by
  subst hws
  exact va_put hx hb hts hin ty0 hty hnm hown hK.1 hW.1 hW.2 hS q0 he hc k hk (hts _ hlink) (fun _ h => h) hfin (hty k hk) hn hfit hl hdg (fun H1 locs1 a1 a2 a3 => kk H1 locs1 ⟨a1, a2⟩ a3)
theorem zputF (hx : p.tables.exec = Jvm.exec) (hb : c.code = cc) {own C : String} {T : u_T} {N ci index : Nat} {Ts : List Cond} {a : Nat} (hts : ∀ w ∈ Ts, w.before args s = true) (hin : ∀ w ∈ u_ws C T N, w ∈ Ts) (ty0 : Nat → FieldType) (hty : ∀ k, k < N → parseFieldDescriptor (T k).2.2.1 = some (ty0 k)) (hnm : ∀ a, a < N → ∀ b, b < N → a ≠ b → (T a).2.1 ≠ (T b).2.1) (hown : s.vm.findClass own = some m.cls) (hK : zK D y s) (hS : va_S A H0 H locs) (hW : zPD D A ws H) (q0 : Nat) {fs : List Value} (he : ws[q0]? = some (a, .inr (ci, fs))) (hc : vwCl[ci]? = some (C, T, N)) (k : Nat) (hk : k < N) (hlink : Cond.fieldLink own index (T k).1 (T k).2.1 (T k).2.2.1 ∈ Ts) (hfin : (T k).2.2.2 = true) (hin2 : meth.name = "<init>") (hdecl : (T k).1 = own) {v : Value} (hn : narrow (ty0 k) v = v) (hfit : fits (ty0 k) v = true) (hl : k < fs.length) {ws' : va_W} (hws : ws.set q0 (a, .inr (ci, fs.set k v)) = ws') (hdg : decode cc pc = .ok (.putfield index, 3))
    (kk : ∀ (H1 : Heap) (locs1 : List Loc), zPD D A ws' H1 → va_S A H0 H1 locs1 → W p l e R s m args below meth c H1 locs1 cells slots Q (F0 m (pc + 3) ls rest)) : W p l e R s m args below meth c H locs cells slots Q (F0 m pc ls (v :: .ref a :: rest)) := by
  subst hws
  exact va_putF hx hb hts hin ty0 hty hnm hown hK.1 hW.1 hW.2 hS q0 he hc k hk (hts _ hlink) (fun _ h => h) hfin hin2 hdecl (hty k hk) hn hfit hl hdg (fun H1 locs1 a1 a2 a3 => kk H1 locs1 ⟨a1, a2⟩ a3)
theorem ziald (hx : p.tables.exec = Jvm.exec) (hb : c.code = cc) {a : Nat} (hK : zK D y s) (hW : zPD D A ws H) (q0 : Nat) {n : Nat} {f : Nat → Int32} (ha : ws[q0]? = some (a, .inl (y 0, n, .inl f))) {i : Int32} (hin : vp_in i n) {v : Int32} (hv : f i.toNatClampNeg = v) (hdg : decode cc pc = .ok (.iaload, 1))
    (kk : W p l e R s m args below meth c H locs cells slots Q (F0 m (pc + 1) ls (.int v :: rest))) : W p l e R s m args below meth c H locs cells slots Q (F0 m pc ls (.int i :: .ref a :: rest)) := by
  subst hv
  exact va_iald hx hb hK.1 hW.1 q0 0 ha rfl hin hdg kk
theorem zzald (hx : p.tables.exec = Jvm.exec) (hb : c.code = cc) {a : Nat} (hK : zK D y s) (hW : zPD D A ws H) (q0 : Nat) {n : Nat} {f : Nat → Int32} (ha : ws[q0]? = some (a, .inl (y 2, n, .inl f))) {i : Int32} (hin : vp_in i n) {v : Int32} (hv : f i.toNatClampNeg = v) (hdg : decode cc pc = .ok (.baload, 1))
    (kk : W p l e R s m args below meth c H locs cells slots Q (F0 m (pc + 1) ls (.int v :: rest))) : W p l e R s m args below meth c H locs cells slots Q (F0 m pc ls (.int i :: .ref a :: rest)) := by
  subst hv
  exact va_zald hx hb hK.1 hW.1 q0 2 ha rfl hin hdg kk
theorem zlald (hx : p.tables.exec = Jvm.exec) (hb : c.code = cc) {a : Nat} (hK : zK D y s) (hW : zPD D A ws H) (q0 : Nat) {n : Nat} {f : Nat → Int64} (ha : ws[q0]? = some (a, .inl (y 1, n, .inr (.inl f)))) {i : Int32} (hin : vp_in i n) {v : Int64} (hv : f i.toNatClampNeg = v) (hdg : decode cc pc = .ok (.laload, 1))
    (kk : W p l e R s m args below meth c H locs cells slots Q (F0 m (pc + 1) ls (.long v :: rest))) : W p l e R s m args below meth c H locs cells slots Q (F0 m pc ls (.int i :: .ref a :: rest)) := by
  subst hv
  exact va_lald hx hb hK.1 hW.1 q0 1 ha rfl hin hdg kk
theorem zaald (hx : p.tables.exec = Jvm.exec) (hb : c.code = cc) {a : Nat} (hK : zK D y s) (hW : zPD D A ws H) (q0 t0 : Nat) {n : Nat} {C : String} {f : Nat → Option Nat} (ha : ws[q0]? = some (a, .inl (y t0, n, .inr (.inr (.inr (.inr f)))))) (ht : (zTY y)[t0]? = some (y t0, .object C)) {i : Int32} (hin : vp_in i n) {v : Value} (hv : va_rf (f i.toNatClampNeg) = v) (hdg : decode cc pc = .ok (.aaload, 1))
    (kk : W p l e R s m args below meth c H locs cells slots Q (F0 m (pc + 1) ls (v :: rest))) : W p l e R s m args below meth c H locs cells slots Q (F0 m pc ls (.int i :: .ref a :: rest)) := by
  subst hv
  exact va_aldq hx hb hK.1 hW.1 q0 t0 ha ht hin hdg kk
theorem ziast (hx : p.tables.exec = Jvm.exec) (hb : c.code = cc) {a : Nat} (hK : zK D y s) (hS : va_S A H0 H locs) (hW : zPD D A ws H) (q0 : Nat) {n : Nat} {f g : Nat → Int32} (ha : ws[q0]? = some (a, .inl (y 0, n, .inl f))) {i x : Int32} (hin : vp_in i n) (hg : upd f i.toNatClampNeg x = g) {ws' : va_W} (hws : ws.set q0 (a, .inl (y 0, n, .inl g)) = ws') (hdg : decode cc pc = .ok (.iastore, 1))
    (kk : ∀ (H1 : Heap) (locs1 : List Loc), zPD D A ws' H1 → va_S A H0 H1 locs1 → W p l e R s m args below meth c H1 locs1 cells slots Q (F0 m (pc + 1) ls rest)) : W p l e R s m args below meth c H locs cells slots Q (F0 m pc ls (.int x :: .int i :: .ref a :: rest)) := by
  subst hg; subst hws
  exact va_iast hx hb hK.1 hW.1 hW.2 hS q0 0 ha rfl hin hdg (fun H1 locs1 a1 a2 a3 => kk H1 locs1 ⟨a1, a2⟩ a3)
theorem zlast (hx : p.tables.exec = Jvm.exec) (hb : c.code = cc) {a : Nat} (hK : zK D y s) (hS : va_S A H0 H locs) (hW : zPD D A ws H) (q0 : Nat) {n : Nat} {f g : Nat → Int64} (ha : ws[q0]? = some (a, .inl (y 1, n, .inr (.inl f)))) {i : Int32} {x : Int64} (hin : vp_in i n) (hg : vp_updL f i.toNatClampNeg x = g) {ws' : va_W} (hws : ws.set q0 (a, .inl (y 1, n, .inr (.inl g))) = ws') (hdg : decode cc pc = .ok (.lastore, 1))
    (kk : ∀ (H1 : Heap) (locs1 : List Loc), zPD D A ws' H1 → va_S A H0 H1 locs1 → W p l e R s m args below meth c H1 locs1 cells slots Q (F0 m (pc + 1) ls rest)) : W p l e R s m args below meth c H locs cells slots Q (F0 m pc ls (.long x :: .int i :: .ref a :: rest)) := by
  subst hg; subst hws
  exact va_last hx hb hK.1 hW.1 hW.2 hS q0 1 ha rfl hin hdg (fun H1 locs1 a1 a2 a3 => kk H1 locs1 ⟨a1, a2⟩ a3)
end ZR
section ZS
variable {p : Program} {l : Launch} {e : Env} {R : Room} {s : State} {m : MethodId} {args : Array Value} {below : List Frame} {meth : Method} {c : Code} {H H0 : Heap} {locs : List Loc} {cells slots : Nat} {Q : State → Prop}
variable {cc : ByteArray} {pc : Nat} {ls : Array Slot} {rest : List Value} {D : va_G} {y : Nat → ClassId} {A : Nat → Prop} {ws : va_W}
theorem zzast (hx : p.tables.exec = Jvm.exec) (hb : c.code = cc) {a : Nat} (hK : zK D y s) (hS : va_S A H0 H locs) (hW : zPD D A ws H) (q0 : Nat) {n : Nat} {f g : Nat → Int32} (ha : ws[q0]? = some (a, .inl (y 2, n, .inl f))) {i x : Int32} (hin : vp_in i n) (hg : upd f i.toNatClampNeg (vp_nar .boolean x) = g) {ws' : va_W} (hws : ws.set q0 (a, .inl (y 2, n, .inl g)) = ws') (hdg : decode cc pc = .ok (.bastore, 1))
    (kk : ∀ (H1 : Heap) (locs1 : List Loc), zPD D A ws' H1 → va_S A H0 H1 locs1 → W p l e R s m args below meth c H1 locs1 cells slots Q (F0 m (pc + 1) ls rest)) : W p l e R s m args below meth c H locs cells slots Q (F0 m pc ls (.int x :: .int i :: .ref a :: rest)) := by
  subst hg; subst hws
  exact va_zast hx hb hK.1 hW.1 hW.2 hS q0 2 ha rfl hin hdg (fun H1 locs1 a1 a2 a3 => kk H1 locs1 ⟨a1, a2⟩ a3)
theorem zaast (hx : p.tables.exec = Jvm.exec) (hb : c.code = cc) {a : Nat} (hK : zK D y s) (hS : va_S A H0 H locs) (hW : zPD D A ws H) (q0 t0 qk ci : Nat) {r : vw_C} {n v : Nat} {vs : List Value} {f g : Nat → Option Nat} (ha : ws[q0]? = some (a, .inl (y t0, n, .inr (.inr (.inr (.inr f)))))) (ht : (zTY y)[t0]? = some (y t0, .object r.1)) (hv : ws[qk]? = some (v, .inr (ci, vs))) (hc : vwCl[ci]? = some r) {i : Int32} (hin : vp_in i n) (hg : va_up f i.toNatClampNeg (some v) = g) {ws' : va_W} (hws : ws.set q0 (a, .inl (y t0, n, .inr (.inr (.inr (.inr g))))) = ws') (hdg : decode cc pc = .ok (.aastore, 1))
    (kk : ∀ (H1 : Heap) (locs1 : List Loc), zPD D A ws' H1 → va_S A H0 H1 locs1 → W p l e R s m args below meth c H1 locs1 cells slots Q (F0 m (pc + 1) ls rest)) : W p l e R s m args below meth c H locs cells slots Q (F0 m pc ls (.ref v :: .int i :: .ref a :: rest)) := by
  subst hg; subst hws
  exact va_astq hx hb hK.1 hW.1 hW.2 hS q0 t0 qk ci ha ht hv hc hin hdg (fun H1 locs1 a1 a2 a3 => kk H1 locs1 ⟨a1, a2⟩ a3)
theorem zalen (hx : p.tables.exec = Jvm.exec) (hb : c.code = cc) {a : Nat} (hK : zK D y s) (hW : zPD D A ws H) (q0 t0 : Nat) {x : vp_A} (ha : ws[q0]? = some (a, .inl (y t0, x))) {ty : FieldType} (ht : (zTY y)[t0]? = some (y t0, ty)) {v : Int32} (hv : Int32.ofNat x.1 = v) (hdg : decode cc pc = .ok (.arraylength, 1))
    (kk : W p l e R s m args below meth c H locs cells slots Q (F0 m (pc + 1) ls (.int v :: rest))) : W p l e R s m args below meth c H locs cells slots Q (F0 m pc ls (.ref a :: rest)) :=
  va_alen hx hb hK.1 hW.1 q0 t0 ha ht hv hdg kk
/-- the class of an array of a type is one -/
theorem zone {tys : List (ClassId × FieldType)} {i j : Nat} {a b : ClassId} {ty : FieldType} (hK : va_K D vwCl tys s) (hi : tys[i]? = some (a, ty)) (hj : tys[j]? = some (b, ty)) : a = b := by
  have h1 := (hK.2 i _ hi).2
  have h2 := (hK.2 j _ hj).2
  cases ty with
  | object C =>
    obtain ⟨_, _, _, _, _, g1⟩ := h1
    obtain ⟨_, _, _, _, _, g2⟩ := h2
    exact Option.some.inj (g1.symm.trans g2)
  | _ => exact Option.some.inj (h1.symm.trans h2)
theorem znewa (hx : p.tables.exec = Jvm.exec) (hb : c.code = cc) {Ts : List Cond} (hts : ∀ w ∈ Ts, w.before args s = true) {atype : ArrayType} (harr : Cond.arrayClass (newarray.typeOf atype) ∈ Ts) (t0 : Nat) (ht : (zTY y)[t0]? = some (y t0, newarray.typeOf atype)) (hK : zK D y s) (hS : va_S A H0 H locs) (hW : zPD D A ws H) (hA : ∀ q, H0.size ≤ q → A q)
    {n : Int32} {N' : Nat} (a0 : vp_A) (ha : ∀ cA : ClassId, vp_cell cA a0 = arrV cA N' (fun _ => defaultValue (newarray.typeOf atype))) (hn : ¬ n < 0) (hN : n.toNatClampNeg = N') (hbytes : N' * componentBytes (newarray.typeOf atype) ≤ 536870912) (hcells : cells + 1 ≤ R.cells) (hslots : slots + N' ≤ R.slots) (hdg : decode cc pc = .ok (.newarray atype, 2))
    (kk : ∀ (q : Nat) (H1 : Heap), zPD D A (ws ++ [(q, .inl (y t0, a0))]) H1 → va_S A H0 H1 locs →
      W p l e R s m args below meth c H1 locs (cells + 1) (slots + N') Q (F0 m (pc + 2) ls (.ref q :: rest))) : W p l e R s m args below meth c H locs cells slots Q (F0 m pc ls (.int n :: rest)) := by
  refine va_newa hx hb (atype := atype) (hts _ harr) rfl hK.1 hW.1 hW.2 hS hA (a0 := a0) ha hn hN hbytes hcells hslots hdg (fun q cA H1 hK1 hP1 hD1 hS1 => ?_)
  have e : cA = y t0 := zone (i := (zTY y).length) (j := t0) (ty := newarray.typeOf atype) hK1 (by simp) (by rw [List.getElem?_append_left ((List.getElem?_eq_some_iff.mp ht).1)]; exact ht)
  subst e
  exact kk q H1 ⟨hP1, hD1⟩ hS1
theorem znewq (hx : p.tables.exec = Jvm.exec) (hb : c.code = cc) {own C : String} {index : Nat} {Ts : List Cond} (hts : ∀ w ∈ Ts, w.before args s = true) (hown : s.vm.findClass own = some m.cls) (hclink : Cond.classLink own index C ∈ Ts) (hover : va_AO C s) (t0 : Nat) (ht : (zTY y)[t0]? = some (y t0, .object C)) (hK : zK D y s) (hS : va_S A H0 H locs) (hW : zPD D A ws H) (hA : ∀ q, H0.size ≤ q → A q)
    {n : Int32} {N' : Nat} (hn : ¬ n < 0) (hN : n.toNatClampNeg = N') (hbytes : N' * 4 ≤ 536870912) (hcells : cells + 1 ≤ R.cells) (hslots : slots + N' ≤ R.slots) (hdg : decode cc pc = .ok (.anewarray index, 3))
    (kk : ∀ (q : Nat) (H1 : Heap), zPD D A (ws ++ [(q, .inl (y t0, N', .inr (.inr (.inr (.inr (fun _ => none))))))]) H1 → va_S A H0 H1 locs →
      W p l e R s m args below meth c H1 locs (cells + 1) (slots + N') Q (F0 m (pc + 3) ls (.ref q :: rest))) : W p l e R s m args below meth c H locs cells slots Q (F0 m pc ls (.int n :: rest)) := by
  refine va_newq hx hb hown (hts _ hclink) hover hK.1 hW.1 hW.2 hS hA hn hN hbytes hcells hslots hdg (fun q cA H1 hK1 hP1 hD1 hS1 => ?_)
  have e : cA = y t0 := zone (i := (zTY y).length) (j := t0) (ty := .object C) hK1 (by simp) (by rw [List.getElem?_append_left ((List.getElem?_eq_some_iff.mp ht).1)]; exact ht)
  subst e
  exact kk q H1 ⟨hP1, hD1⟩ hS1
theorem znew (hx : p.tables.exec = Jvm.exec) (hb : c.code = cc) {own C : String} {T : u_T} {N ci index : Nat} {Ts : List Cond} (hts : ∀ w ∈ Ts, w.before args s = true) (hin : ∀ w ∈ u_ws C T N, w ∈ Ts) (ty : Nat → FieldType) (hty : ∀ k, k < N → parseFieldDescriptor (T k).2.2.1 = some (ty k)) (hown : s.vm.findClass own = some m.cls) (hcl : Cond.classLink own index C ∈ Ts) (hinst : Cond.instantiable C N ∈ Ts) (hini : Cond.initialized C ∈ Ts)
    (hK : zK D y s) (hS : va_S A H0 H locs) (hW : zPD D A ws H) (hA : ∀ q, H0.size ≤ q → A q) (hc : vwCl[ci]? = some (C, T, N)) {fs : List Value} (hfs : ∀ j, j < N → defaultValue (ty j) = vp_V fs j) (hcells : cells + 1 ≤ R.cells) (hslots : slots + N ≤ R.slots) (hdg : decode cc pc = .ok (.new index, 3))
    (kk : ∀ (q : Nat) (H1 : Heap), zPD D A (ws ++ [(q, .inr (ci, fs))]) H1 → va_S A H0 H1 locs →
      W p l e R s m args below meth c H1 locs (cells + 1) (slots + N) Q (F0 m (pc + 3) ls (.ref q :: rest))) : W p l e R s m args below meth c H locs cells slots Q (F0 m pc ls rest) :=
  va_new hx hb hts hin ty hty hown (hts _ hcl) (hts _ hinst) (hts _ hini) hK.1 hW.1 hW.2 hS hA hc hfs hcells hslots hdg (fun q H1 a1 a2 a3 => kk q H1 ⟨a1, a2⟩ a3)
/-- a store that leaves the array as it was -/
theorem zset {ws : va_W} {q0 : Nat} {q : Nat × va_E} (h : ws[q0]? = some q) : ws.set q0 q = ws := by
  apply List.ext_getElem?
  intro i
  rw [List.getElem?_set]
  split
  · next e =>
    subst e
    split
    · exact h.symm
    · next hn => rw [List.getElem?_eq_none (by omega)]
  · rfl
theorem ziast0 (hx : p.tables.exec = Jvm.exec) (hb : c.code = cc) {a : Nat} (hK : zK D y s) (hS : va_S A H0 H locs) (hW : zPD D A ws H) (q0 : Nat) {n : Nat} {f : Nat → Int32} (ha : ws[q0]? = some (a, .inl (y 0, n, .inl f))) {i x : Int32} (hin : vp_in i n) (hg : upd f i.toNatClampNeg x = f) (hdg : decode cc pc = .ok (.iastore, 1))
    (kk : ∀ (H1 : Heap) (locs1 : List Loc), zPD D A ws H1 → va_S A H0 H1 locs1 → W p l e R s m args below meth c H1 locs1 cells slots Q (F0 m (pc + 1) ls rest)) : W p l e R s m args below meth c H locs cells slots Q (F0 m pc ls (.int x :: .int i :: .ref a :: rest)) :=
  ziast hx hb hK hS hW q0 ha hin hg (zset ha) hdg kk
theorem zlast0 (hx : p.tables.exec = Jvm.exec) (hb : c.code = cc) {a : Nat} (hK : zK D y s) (hS : va_S A H0 H locs) (hW : zPD D A ws H) (q0 : Nat) {n : Nat} {f : Nat → Int64} (ha : ws[q0]? = some (a, .inl (y 1, n, .inr (.inl f)))) {i : Int32} {x : Int64} (hin : vp_in i n) (hg : vp_updL f i.toNatClampNeg x = f) (hdg : decode cc pc = .ok (.lastore, 1))
    (kk : ∀ (H1 : Heap) (locs1 : List Loc), zPD D A ws H1 → va_S A H0 H1 locs1 → W p l e R s m args below meth c H1 locs1 cells slots Q (F0 m (pc + 1) ls rest)) : W p l e R s m args below meth c H locs cells slots Q (F0 m pc ls (.long x :: .int i :: .ref a :: rest)) :=
  zlast hx hb hK hS hW q0 ha hin hg (zset ha) hdg kk
theorem zzast0 (hx : p.tables.exec = Jvm.exec) (hb : c.code = cc) {a : Nat} (hK : zK D y s) (hS : va_S A H0 H locs) (hW : zPD D A ws H) (q0 : Nat) {n : Nat} {f : Nat → Int32} (ha : ws[q0]? = some (a, .inl (y 2, n, .inl f))) {i x : Int32} (hin : vp_in i n) (hg : upd f i.toNatClampNeg (vp_nar .boolean x) = f) (hdg : decode cc pc = .ok (.bastore, 1))
    (kk : ∀ (H1 : Heap) (locs1 : List Loc), zPD D A ws H1 → va_S A H0 H1 locs1 → W p l e R s m args below meth c H1 locs1 cells slots Q (F0 m (pc + 1) ls rest)) : W p l e R s m args below meth c H locs cells slots Q (F0 m pc ls (.int x :: .int i :: .ref a :: rest)) :=
  zzast hx hb hK hS hW q0 ha hin hg (zset ha) hdg kk
/-! a method's end -/
variable {S : Type} {k n : Nat}
theorem zret_i (hx : p.tables.exec = Jvm.exec) (hb : c.code = cc) (hr : meth.sig.returnType = some .int) (hlocks : meth.locks = false) (hS : va_S A s.heap H locs) {post : Int32 → S → Prop} {w1 : S → va_W} (u : S) {v : Int32} (hp : post v u) (hW : zPD D A (w1 u) H) (hc : cells ≤ k) (hs : slots ≤ n) (hdg : decode cc pc = .ok (.ireturn, 1)) : W p l e R s m args below meth c H locs cells slots (MQ below (zQi D post w1 A) args s k n A) (F0 m pc ls [.int v]) :=
  W.widen hc hs (W.iret (v := v) hx hb hr (fun t ht _ => ⟨⟨v, u, rfl, hp, by rw [ht]; exact hW.1, hW.2⟩, hS.F ht⟩) hS.2.2 hdg hlocks)
theorem zret_z (hx : p.tables.exec = Jvm.exec) (hb : c.code = cc) (hr : meth.sig.returnType = some .boolean) (hlocks : meth.locks = false) (hS : va_S A s.heap H locs) {post : Int32 → S → Prop} {w1 : S → va_W} (u : S) {v : Int32} (hn : narrow .boolean (.int v) = .int v) (hp : post v u) (hW : zPD D A (w1 u) H) (hc : cells ≤ k) (hs : slots ≤ n) (hdg : decode cc pc = .ok (.ireturn, 1)) : W p l e R s m args below meth c H locs cells slots (MQ below (zQi D post w1 A) args s k n A) (F0 m pc ls [.int v]) :=
  W.widen hc hs (W.zret (v := v) hx hb hr hn (fun t ht _ => ⟨⟨v, u, rfl, hp, by rw [ht]; exact hW.1, hW.2⟩, hS.F ht⟩) hS.2.2 hdg hlocks)
theorem zret_l (hx : p.tables.exec = Jvm.exec) (hb : c.code = cc) (hr : meth.sig.returnType = some .long) (hlocks : meth.locks = false) (hS : va_S A s.heap H locs) {post : Int64 → S → Prop} {w1 : S → va_W} (u : S) {v : Int64} (hp : post v u) (hW : zPD D A (w1 u) H) (hc : cells ≤ k) (hs : slots ≤ n) (hdg : decode cc pc = .ok (.lreturn, 1)) : W p l e R s m args below meth c H locs cells slots (MQ below (zQl D post w1 A) args s k n A) (F0 m pc ls [.long v]) :=
  W.widen hc hs (W.lret (v := v) hx hb hr (fun t ht _ => ⟨⟨v, u, rfl, hp, by rw [ht]; exact hW.1, hW.2⟩, hS.F ht⟩) hS.2.2 hdg hlocks)
theorem zret_v (hx : p.tables.exec = Jvm.exec) (hb : c.code = cc) (hr : meth.sig.returnType = none) (hlocks : meth.locks = false) (hS : va_S A s.heap H locs) {post : S → Prop} {w1 : S → va_W} (u : S) (hp : post u) (hW : zPD D A (w1 u) H) (hc : cells ≤ k) (hs : slots ≤ n) (hdg : decode cc pc = .ok (.return_, 1)) : W p l e R s m args below meth c H locs cells slots (MQ below (zQv D post w1 A) args s k n A) (F0 m pc ls []) :=
  W.widen hc hs (W.vret hx hb hr (fun t ht _ => ⟨⟨u, rfl, hp, by rw [ht]; exact hW.1, hW.2⟩, hS.F ht⟩) hS.2.2 hdg hlocks)
theorem zret_r (hx : p.tables.exec = Jvm.exec) (hb : c.code = cc) {C : String} (hr : meth.sig.returnType = some (.object C)) (hlocks : meth.locks = false) (hS : va_S A s.heap H locs) {post : Nat → S → Prop} {w1 : S → va_W} (u : S) {v : Nat} (hp : post v u) (hW : zPD D A (w1 u) H) (hc : cells ≤ k) (hs : slots ≤ n) (hdg : decode cc pc = .ok (.areturn, 1)) : W p l e R s m args below meth c H locs cells slots (MQ below (zQr D post w1 A) args s k n A) (F0 m pc ls [.ref v]) :=
  W.widen hc hs (W.aret (v := .ref v) hx hb hr (Or.inl ⟨_, rfl⟩) (Or.inr ⟨_, rfl⟩) (fun t ht _ => ⟨⟨u, v, rfl, trivial, hp, by rw [ht]; exact hW.1, hW.2⟩, hS.F ht⟩) hS.2.2 hdg hlocks)
/-! calls -/
variable {nL n0 index maxL : Nat} {yn : MethodName} {wsM : List Cond} {rm : Room} {wc : va_W} {Qc : (Nat → Prop) → Array Value → State → Outcome → State → Prop} {bytes : ByteArray} {ret : Option FieldType} {Ts : List Cond} {own C : String} {b : Nat} {As : List Value} {st0 : List Value}
theorem zblind {av : List Value} {w0 : va_W} {sz : Nat} : FrameBlind (va_Pc av (zPre D y w0 sz)) := fun a U g mk q => by
  obtain ⟨q0, q1, qP, qK, qE, qD⟩ := q
  exact ⟨q0, q1, qP, zK.same (u := U) (U := U.calling g mk a) rfl qK, zE.same (u := U) (U := U.calling g mk a) rfl qE, qD⟩
theorem zrunV (S0 : CallFix p m c cc nL s args Ts own) (hM : zM l D y yn wsM rm (.ref b :: As) wc Qc) (cw : CallW R s args own C index yn bytes maxL ret wsM rm rm.cells rm.slots n0) (hK : zK D y s) (hE : zE y A s s.heap) (hS : va_S A s.heap H locs) (hA : ∀ q, s.heap.size ≤ q → A q) (hW : zPD D A ws H) (isC : List Nat) (hn : va_nd isC = true) (hC : isC.map (fun i => ws[i]?) = wc.map some) (q0 : Nat) {ci : Nat} {cq : vw_C} {fs : List Value} (hq0 : wc[q0]? = some (b, .inr (ci, fs))) (hcl : vwCl[ci]? = some cq) (hCn : cq.1 = C)
    (hlen : As.length = n0) (hsize : ls.size = nL) (hst : st0 = As.reverse ++ .ref b :: rest) (hroom : (rest.map fun v => v.category).sum ≤ 8) (hdg : decode cc pc = .ok (.invokevirtual index, 3)) (hf1 : cells + rm.cells ≤ R.cells) (hf2 : slots + rm.slots ≤ R.slots) :
    va_Run p l e R s m args below meth c H locs cells slots rm.cells rm.slots (F0 m pc ls st0) rest (Qc (va_A wc H.size) (Value.ref b :: As).toArray) (va_A wc H.size) := by
  have hWc := hW.sub isC hn hC
  have hF := va_free (wc := wc) hW.2 hS hA isC hC
  subst hCn
  exact va_runV S0 (hM H.size) cw ⟨zblind, va_recv hK.1 hWc.1 hcl hq0, fun U hU hW9 => ⟨rfl, by rw [hU], by rw [hU]; exact hWc.1, zK.warm hW9 hK, by rw [hU]; exact zE.warm hW9 (hE.down hS hF), hWc.2.weaken (fun _ _ _ _ => trivial)⟩⟩ rfl hlen hsize hst (lv_room hroom) hdg ⟨hf1, hf2⟩
theorem zrunVS (S0 : CallFix p m c cc nL s args Ts own) (hM : zM l D y yn wsM rm (.ref b :: As) wc Qc) (cw : CallW R s args own "java/lang/String" index yn bytes maxL ret wsM rm rm.cells rm.slots n0) (hK : zK D y s) (hE : zE y A s s.heap) (hS : va_S A s.heap H locs) (hA : ∀ q, s.heap.size ≤ q → A q) (hW : zPD D A ws H) (isC : List Nat) (hn : va_nd isC = true) (hC : isC.map (fun i => ws[i]?) = wc.map some) (q0 : Nat) (hq0 : q0 < 7) (hqb : y (10 + q0) = b)
    (hlen : As.length = n0) (hsize : ls.size = nL) (hst : st0 = As.reverse ++ .ref b :: rest) (hroom : (rest.map fun v => v.category).sum ≤ 8) (hdg : decode cc pc = .ok (.invokevirtual index, 3)) (hf1 : cells + rm.cells ≤ R.cells) (hf2 : slots + rm.slots ≤ R.slots) :
    va_Run p l e R s m args below meth c H locs cells slots rm.cells rm.slots (F0 m pc ls st0) rest (Qc (va_A wc H.size) (Value.ref b :: As).toArray) (va_A wc H.size) := by
  have hWc := hW.sub isC hn hC
  have hF := va_free (wc := wc) hW.2 hS hA isC hC
  subst hqb
  exact va_runV S0 (hM H.size) cw ⟨zblind, vk_recv (i := q0) (adK := fun i => y (10 + i)) hE.1 hq0 hS, fun U hU hW9 => ⟨rfl, by rw [hU], by rw [hU]; exact hWc.1, zK.warm hW9 hK, by rw [hU]; exact zE.warm hW9 (hE.down hS hF), hWc.2.weaken (fun _ _ _ _ => trivial)⟩⟩ rfl hlen hsize hst (lv_room hroom) hdg ⟨hf1, hf2⟩
theorem zrunI (S0 : CallFix p m c cc nL s args Ts own) (hM : zM l D y yn wsM rm (.ref b :: As) wc Qc) (cw : CallB R s args own index yn bytes maxL none wsM rm rm.cells rm.slots n0 ∧ yn.name = "<init>" ∧ (Cond.instanceMethod yn).before args s = true) (hK : zK D y s) (hE : zE y A s s.heap) (hS : va_S A s.heap H locs) (hA : ∀ q, s.heap.size ≤ q → A q) (hW : zPD D A ws H) (isC : List Nat) (hn : va_nd isC = true) (hC : isC.map (fun i => ws[i]?) = wc.map some)
    (hlen : As.length = n0) (hsize : ls.size = nL) (hst : st0 = As.reverse ++ .ref b :: rest) (hroom : (rest.map fun v => v.category).sum ≤ 8) (hdg : decode cc pc = .ok (.invokespecial index, 3)) (hf1 : cells + rm.cells ≤ R.cells) (hf2 : slots + rm.slots ≤ R.slots) :
    va_Run p l e R s m args below meth c H locs cells slots rm.cells rm.slots (F0 m pc ls st0) rest (Qc (va_A wc H.size) (Value.ref b :: As).toArray) (va_A wc H.size) := by
  have hWc := hW.sub isC hn hC
  have hF := va_free (wc := wc) hW.2 hS hA isC hC
  exact va_runI S0 (hM H.size) cw ⟨zblind, fun U hU hW9 => ⟨rfl, by rw [hU], by rw [hU]; exact hWc.1, zK.warm hW9 hK, by rw [hU]; exact zE.warm hW9 (hE.down hS hF), hWc.2.weaken (fun _ _ _ _ => trivial)⟩⟩ rfl hlen hsize hst (lv_room hroom) hdg ⟨hf1, hf2⟩
theorem zrunIN {host : String} (S0 : CallFix p m c cc nL s args Ts own) (hM : zM l D y yn wsM rm (.ref b :: As) wc Qc) (cw : va_CN R s args own index yn host bytes maxL none wsM rm rm.cells rm.slots n0 ∧ yn.name = "<init>" ∧ (Cond.instanceMethod yn).before args s = true) (hK : zK D y s) (hE : zE y A s s.heap) (hS : va_S A s.heap H locs) (hA : ∀ q, s.heap.size ≤ q → A q) (hW : zPD D A ws H) (isC : List Nat) (hn : va_nd isC = true) (hC : isC.map (fun i => ws[i]?) = wc.map some)
    (hlen : As.length = n0) (hsize : ls.size = nL) (hst : st0 = As.reverse ++ .ref b :: rest) (hroom : (rest.map fun v => v.category).sum ≤ 8) (hdg : decode cc pc = .ok (.invokespecial index, 3)) (hf1 : cells + rm.cells ≤ R.cells) (hf2 : slots + rm.slots ≤ R.slots) :
    va_Run p l e R s m args below meth c H locs cells slots rm.cells rm.slots (F0 m pc ls st0) rest (Qc (va_A wc H.size) (Value.ref b :: As).toArray) (va_A wc H.size) := by
  have hWc := hW.sub isC hn hC
  have hF := va_free (wc := wc) hW.2 hS hA isC hC
  exact va_runIN S0 (hM H.size) cw ⟨zblind, fun U hU hW9 => ⟨rfl, by rw [hU], by rw [hU]; exact hWc.1, zK.warm hW9 hK, by rw [hU]; exact zE.warm hW9 (hE.down hS hF), hWc.2.weaken (fun _ _ _ _ => trivial)⟩⟩ rfl hlen hsize hst (lv_room hroom) hdg ⟨hf1, hf2⟩
theorem zrunS (S0 : CallFix p m c cc nL s args Ts own) (hM : zM l D y yn wsM rm As wc Qc) (cw : CallB R s args own index yn bytes maxL ret wsM rm rm.cells rm.slots n0 ∧ (Cond.static yn).before args s = true) (hK : zK D y s) (hE : zE y A s s.heap) (hS : va_S A s.heap H locs) (hA : ∀ q, s.heap.size ≤ q → A q) (hW : zPD D A ws H) (isC : List Nat) (hn : va_nd isC = true) (hC : isC.map (fun i => ws[i]?) = wc.map some)
    (hlen : As.length = n0) (hsize : ls.size = nL) (hst : st0 = As.reverse ++ rest) (hroom : (rest.map fun v => v.category).sum ≤ 8) (hdg : decode cc pc = .ok (.invokestatic index, 3)) (hf1 : cells + rm.cells ≤ R.cells) (hf2 : slots + rm.slots ≤ R.slots) :
    va_Run p l e R s m args below meth c H locs cells slots rm.cells rm.slots (F0 m pc ls st0) rest (Qc (va_A wc H.size) As.toArray) (va_A wc H.size) := by
  have hWc := hW.sub isC hn hC
  have hF := va_free (wc := wc) hW.2 hS hA isC hC
  exact va_runS S0 (hM H.size) cw ⟨zblind, fun U hU hW9 => ⟨rfl, by rw [hU], by rw [hU]; exact hWc.1, zK.warm hW9 hK, by rw [hU]; exact zE.warm hW9 (hE.down hS hF), hWc.2.weaken (fun _ _ _ _ => trivial)⟩⟩ rfl hlen hsize hst (lv_room hroom) hdg ⟨hf1, hf2⟩
variable {wr : va_W} {mc ms : Nat} {av : Array Value}
theorem zgo_i {post : Int32 → S → Prop} {w1 : S → va_W} (hr : va_Run p l e R s m args below meth c H locs cells slots mc ms (F0 m pc ls st0) rest (zQi D post w1 (va_A wc H.size) av) (va_A wc H.size)) (hS : va_S A H0 H locs) (hA : ∀ q, H0.size ≤ q → A q) (hW : zPD D A ws H) (isC isR : List Nat) (hC : isC.map (fun i => ws[i]?) = wc.map some) (hR : isR.map (fun i => ws[i]?) = wr.map some) (hn : va_nd isR = true) (hdis : (isR.all fun i => !isC.contains i) = true)
    (kk : ∀ (r : Int32) (u : S) (H1 : Heap) (locs1 : List Loc), post r u → zPD D A (wr ++ w1 u) H1 → va_S A H0 H1 locs1 → W p l e R s m args below meth c H1 locs1 (cells + mc) (slots + ms) Q (F0 m (pc + 3) ls (.int r :: rest))) : W p l e R s m args below meth c H locs cells slots Q (F0 m pc ls st0) := by
  have hF := va_free (wc := wc) hW.2 hS hA isC hC
  refine va_calli hr hS (fun q _ h => hF q h) hF (fun r u t H1 locs1 ht hvm hw hB hz1 hk1 hS1 => ?_)
  obtain ⟨hP1, hD1⟩ := hB
  rw [ht] at hP1
  exact kk r u H1 locs1 hw (va_join hW.1 hW.2 isC isR hC hR hn (fun i hi hc => by have h := List.all_eq_true.mp hdis i hi; simp [hc] at h) hk1 hF hP1 hD1) hS1
theorem zgo_l {post : Int64 → S → Prop} {w1 : S → va_W} (hr : va_Run p l e R s m args below meth c H locs cells slots mc ms (F0 m pc ls st0) rest (zQl D post w1 (va_A wc H.size) av) (va_A wc H.size)) (hS : va_S A H0 H locs) (hA : ∀ q, H0.size ≤ q → A q) (hW : zPD D A ws H) (isC isR : List Nat) (hC : isC.map (fun i => ws[i]?) = wc.map some) (hR : isR.map (fun i => ws[i]?) = wr.map some) (hn : va_nd isR = true) (hdis : (isR.all fun i => !isC.contains i) = true)
    (kk : ∀ (r : Int64) (u : S) (H1 : Heap) (locs1 : List Loc), post r u → zPD D A (wr ++ w1 u) H1 → va_S A H0 H1 locs1 → W p l e R s m args below meth c H1 locs1 (cells + mc) (slots + ms) Q (F0 m (pc + 3) ls (.long r :: rest))) : W p l e R s m args below meth c H locs cells slots Q (F0 m pc ls st0) := by
  have hF := va_free (wc := wc) hW.2 hS hA isC hC
  refine va_calll hr hS (fun q _ h => hF q h) hF (fun r u t H1 locs1 ht hvm hw hB hz1 hk1 hS1 => ?_)
  obtain ⟨hP1, hD1⟩ := hB
  rw [ht] at hP1
  exact kk r u H1 locs1 hw (va_join hW.1 hW.2 isC isR hC hR hn (fun i hi hc => by have h := List.all_eq_true.mp hdis i hi; simp [hc] at h) hk1 hF hP1 hD1) hS1
theorem zgo_v {post : S → Prop} {w1 : S → va_W} (hr : va_Run p l e R s m args below meth c H locs cells slots mc ms (F0 m pc ls st0) rest (zQv D post w1 (va_A wc H.size) av) (va_A wc H.size)) (hS : va_S A H0 H locs) (hA : ∀ q, H0.size ≤ q → A q) (hW : zPD D A ws H) (isC isR : List Nat) (hC : isC.map (fun i => ws[i]?) = wc.map some) (hR : isR.map (fun i => ws[i]?) = wr.map some) (hn : va_nd isR = true) (hdis : (isR.all fun i => !isC.contains i) = true)
    (kk : ∀ (u : S) (H1 : Heap) (locs1 : List Loc), post u → zPD D A (wr ++ w1 u) H1 → va_S A H0 H1 locs1 → W p l e R s m args below meth c H1 locs1 (cells + mc) (slots + ms) Q (F0 m (pc + 3) ls rest)) : W p l e R s m args below meth c H locs cells slots Q (F0 m pc ls st0) := by
  have hF := va_free (wc := wc) hW.2 hS hA isC hC
  refine va_callv hr hS (fun q _ h => hF q h) hF (fun u t H1 locs1 ht hvm hw hB hz1 hk1 hS1 => ?_)
  obtain ⟨hP1, hD1⟩ := hB
  rw [ht] at hP1
  exact kk u H1 locs1 hw (va_join hW.1 hW.2 isC isR hC hR hn (fun i hi hc => by have h := List.all_eq_true.mp hdis i hi; simp [hc] at h) hk1 hF hP1 hD1) hS1
theorem zgo_r {post : Nat → S → Prop} {w1 : S → va_W} (hr : va_Run p l e R s m args below meth c H locs cells slots mc ms (F0 m pc ls st0) rest (zQr D post w1 (va_A wc H.size) av) (va_A wc H.size)) (hS : va_S A H0 H locs) (hA : ∀ q, H0.size ≤ q → A q) (hW : zPD D A ws H) (isC isR : List Nat) (hC : isC.map (fun i => ws[i]?) = wc.map some) (hR : isR.map (fun i => ws[i]?) = wr.map some) (hn : va_nd isR = true) (hdis : (isR.all fun i => !isC.contains i) = true)
    (kk : ∀ (r : Nat) (u : S) (H1 : Heap) (locs1 : List Loc), post r u → zPD D A (wr ++ w1 u) H1 → va_S A H0 H1 locs1 → W p l e R s m args below meth c H1 locs1 (cells + mc) (slots + ms) Q (F0 m (pc + 3) ls (.ref r :: rest))) : W p l e R s m args below meth c H locs cells slots Q (F0 m pc ls st0) := by
  have hF := va_free (wc := wc) hW.2 hS hA isC hC
  refine va_callr hr hS (fun q _ h => hF q h) hF (fun u r t H1 locs1 ht hvm hw hB hz1 hk1 hS1 => ?_)
  obtain ⟨hw, hP1, hD1⟩ := hB
  rw [ht] at hP1
  exact kk r u H1 locs1 hw (va_join hW.1 hW.2 isC isR hC hR hn (fun i hi hc => by have h := List.all_eq_true.mp hdis i hi; simp [hc] at h) hk1 hF hP1 hD1) hS1
theorem zrange {α : Type} (l : List α) : (List.range l.length).map (fun i => l[i]?) = l.map some := by
  apply List.ext_getElem?
  intro i
  rw [List.getElem?_map, List.getElem?_map]
  by_cases h : i < l.length
  · rw [List.getElem?_range h]; simp [List.getElem?_eq_getElem h]
  · rw [List.getElem?_eq_none (by simp; omega), List.getElem?_eq_none (by omega)]; rfl
theorem znd : ∀ (l : List Nat), l.Nodup → va_nd l = true
  | [], _ => rfl
  | a :: l, h => by
    have h := List.nodup_cons.mp h
    simp [va_nd, h.1, znd l h.2]
theorem zgo0_i {post : Int32 → S → Prop} (hr : va_Run p l e R s m args below meth c H locs cells slots mc ms (F0 m pc ls st0) rest (zQi D post (fun _ => []) (va_A [] H.size) av) (va_A [] H.size)) (hS : va_S A H0 H locs) (hA : ∀ q, H0.size ≤ q → A q) (hW : zPD D A ws H)
    (kk : ∀ (r : Int32) (u : S) (H1 : Heap) (locs1 : List Loc), post r u → zPD D A ws H1 → va_S A H0 H1 locs1 → W p l e R s m args below meth c H1 locs1 (cells + mc) (slots + ms) Q (F0 m (pc + 3) ls (.int r :: rest))) : W p l e R s m args below meth c H locs cells slots Q (F0 m pc ls st0) :=
  zgo_i (wr := ws) hr hS hA hW [] (List.range ws.length) rfl (zrange ws) (znd _ List.nodup_range) (by simp) (fun r u H1 locs1 hw h9 h8 => kk r u H1 locs1 hw (by rw [List.append_nil] at h9; exact h9) h8)
theorem zgo0_l {post : Int64 → S → Prop} (hr : va_Run p l e R s m args below meth c H locs cells slots mc ms (F0 m pc ls st0) rest (zQl D post (fun _ => []) (va_A [] H.size) av) (va_A [] H.size)) (hS : va_S A H0 H locs) (hA : ∀ q, H0.size ≤ q → A q) (hW : zPD D A ws H)
    (kk : ∀ (r : Int64) (u : S) (H1 : Heap) (locs1 : List Loc), post r u → zPD D A ws H1 → va_S A H0 H1 locs1 → W p l e R s m args below meth c H1 locs1 (cells + mc) (slots + ms) Q (F0 m (pc + 3) ls (.long r :: rest))) : W p l e R s m args below meth c H locs cells slots Q (F0 m pc ls st0) :=
  zgo_l (wr := ws) hr hS hA hW [] (List.range ws.length) rfl (zrange ws) (znd _ List.nodup_range) (by simp) (fun r u H1 locs1 hw h9 h8 => kk r u H1 locs1 hw (by rw [List.append_nil] at h9; exact h9) h8)
theorem zgo0_v {post : S → Prop} (hr : va_Run p l e R s m args below meth c H locs cells slots mc ms (F0 m pc ls st0) rest (zQv D post (fun _ => []) (va_A [] H.size) av) (va_A [] H.size)) (hS : va_S A H0 H locs) (hA : ∀ q, H0.size ≤ q → A q) (hW : zPD D A ws H)
    (kk : ∀ (u : S) (H1 : Heap) (locs1 : List Loc), post u → zPD D A ws H1 → va_S A H0 H1 locs1 → W p l e R s m args below meth c H1 locs1 (cells + mc) (slots + ms) Q (F0 m (pc + 3) ls rest)) : W p l e R s m args below meth c H locs cells slots Q (F0 m pc ls st0) :=
  zgo_v (wr := ws) hr hS hA hW [] (List.range ws.length) rfl (zrange ws) (znd _ List.nodup_range) (by simp) (fun u H1 locs1 hw h9 h8 => kk u H1 locs1 hw (by rw [List.append_nil] at h9; exact h9) h8)
theorem zgo0_r {post : Nat → S → Prop} (hr : va_Run p l e R s m args below meth c H locs cells slots mc ms (F0 m pc ls st0) rest (zQr D post (fun _ => []) (va_A [] H.size) av) (va_A [] H.size)) (hS : va_S A H0 H locs) (hA : ∀ q, H0.size ≤ q → A q) (hW : zPD D A ws H)
    (kk : ∀ (r : Nat) (u : S) (H1 : Heap) (locs1 : List Loc), post r u → zPD D A ws H1 → va_S A H0 H1 locs1 → W p l e R s m args below meth c H1 locs1 (cells + mc) (slots + ms) Q (F0 m (pc + 3) ls (.ref r :: rest))) : W p l e R s m args below meth c H locs cells slots Q (F0 m pc ls st0) :=
  zgo_r (wr := ws) hr hS hA hW [] (List.range ws.length) rfl (zrange ws) (znd _ List.nodup_range) (by simp) (fun r u H1 locs1 hw h9 h8 => kk r u H1 locs1 hw (by rw [List.append_nil] at h9; exact h9) h8)
/-! numbers -/
theorem zbnd (x : Int32) : (-2147483648) ≤ x.toInt ∧ x.toInt ≤ 2147483647 := ⟨Int32.le_toInt x, Int32.toInt_le x⟩
theorem zi_lt (a b : Int32) : a < b ↔ a.toInt < b.toInt := Int32.lt_iff_toInt_lt
theorem zi_le (a b : Int32) : a ≤ b ↔ a.toInt ≤ b.toInt := Int32.le_iff_toInt_le
theorem zi_eq (a b : Int32) : a = b ↔ a.toInt = b.toInt := Int32.toInt_inj.symm
theorem zupd0 (k : Nat) : upd (fun _ => (0 : Int32)) k 0 = fun _ => 0 := by
  funext j; unfold upd; split <;> rfl
theorem zupdL0 (k : Nat) : vp_updL (fun _ => (0 : Int64)) k 0 = fun _ => 0 := by
  funext j; unfold vp_updL; split <;> rfl
theorem zadd (x y : Int32) (h1 : (-2147483648) ≤ x.toInt + y.toInt) (h2 : x.toInt + y.toInt ≤ 2147483647) : (x + y).toInt = x.toInt + y.toInt := by
  rw [Int32.toInt_add, Int.bmod_eq_of_le] <;> omega
theorem zsub (x y : Int32) (h1 : (-2147483648) ≤ x.toInt - y.toInt) (h2 : x.toInt - y.toInt ≤ 2147483647) : (x - y).toInt = x.toInt - y.toInt := by
  rw [Int32.toInt_sub, Int.bmod_eq_of_le] <;> omega
theorem zmul (x y : Int32) (h1 : (-2147483648) ≤ x.toInt * y.toInt) (h2 : x.toInt * y.toInt ≤ 2147483647) : (x * y).toInt = x.toInt * y.toInt := by
  rw [Int32.toInt_mul, Int.bmod_eq_of_le] <;> omega
theorem zadd_1 (x : Int32) (h : x.toInt < 2147483647) : (x + 1).toInt = x.toInt + 1 := by
  have h2 := zbnd x
  rw [Int32.toInt_add]
  have : (1 : Int32).toInt = 1 := by decide
  rw [this, Int.bmod_eq_of_le] <;> omega
theorem zupdB0 (k : Nat) : upd (fun _ => (0 : Int32)) k (vp_nar .boolean 0) = fun _ => 0 := zupd0 k
theorem zn_X0 : ∀ j, j < 5 → defaultValue (tyX0 j) = vp_V [.null, .int 0, .int 0, .int 0, .int 0] j := by decide +kernel
theorem zn_X1 : ∀ j, j < 9 → defaultValue (tyX1 j) = vp_V [.null, .int 0, .int 0, .null, .null, .null, .int 0, .null, .null] j := by decide +kernel
theorem zn_X2 : ∀ j, j < 8 → defaultValue (tyX2 j) = vp_V [.int 0, .int 0, .int 0, .null, .null, .int 0, .null, .null] j := by decide +kernel
theorem zn_X4 : ∀ j, j < 7 → defaultValue (tyX4 j) = vp_V [.int 0, .int 0, .int 0, .int 0, .int 0, .int 0, .null] j := by decide +kernel
theorem zn_X5 : ∀ j, j < 5 → defaultValue (tyX5 j) = vp_V [.null, .int 0, .int 0, .int 0, .null] j := by decide +kernel
theorem zn_X6 : ∀ j, j < 3 → defaultValue (tyX6 j) = vp_V [.int 0, .null, .null] j := by decide +kernel
theorem zn_X7 : ∀ j, j < 12 → defaultValue (tyX7 j) = vp_V [.null, .int 0, .int 0, .int 0, .int 0, .int 0, .int 0, .int 0, .null, .null, .null, .null] j := by decide +kernel
theorem zn_X8 : ∀ j, j < 3 → defaultValue (tyX8 j) = vp_V [.int 0, .int 0, .null] j := by decide +kernel
theorem zn_X9 : ∀ j, j < 9 → defaultValue (tyX9 j) = vp_V [.null, .int 0, .null, .null, .null, .int 0, .null, .null, .null] j := by decide +kernel
theorem zn_X10 : ∀ j, j < 76 → defaultValue (tyX10 j) = vp_V [.int 0, .int 0, .int 0, .int 0, .int 0, .int 0, .int 0, .null, .null, .null, .null, .null, .null, .null, .int 0, .int 0, .int 0, .int 0, .int 0, .null, .null, .null, .null, .null, .null, .null, .null, .int 0, .int 0, .int 0, .null, .null, .int 0, .null, .null, .int 0, .null, .int 0, .null, .null, .int 0, .null, .null, .int 0, .null, .null, .int 0, .int 0, .int 0, .int 0, .int 0, .int 0, .int 0, .int 0, .int 0, .int 0, .int 0, .int 0, .null, .null, .null, .null, .null, .null, .null, .null, .null, .null, .null, .null, .int 0, .null, .null, .null, .null, .null] j := by decide +kernel
end ZS
section ZN
variable {p : Program} {l : Launch} {e : Env} {R : Room} {s : State} {m : MethodId} {args : Array Value} {below : List Frame} {meth : Method} {c : Code} {H H0 : Heap} {locs : List Loc} {cells slots : Nat} {Q : State → Prop}
variable {cc : ByteArray} {pc : Nat} {ls : Array Slot} {rest : List Value} {D : va_G} {y : Nat → ClassId} {A : Nat → Prop} {ws : va_W}
theorem ziastN (hx : p.tables.exec = Jvm.exec) (hb : c.code = cc) {a : Nat} (hK : zK D y s) (hS : va_S A H0 H locs) (hW : zPD D A ws H) (q0 : Nat) {n : Nat} {f : Nat → Int32} (ha : ws[q0]? = some (a, .inl (y 0, n, .inl f))) {i x : Int32} (hin : vp_in i n) {ws' : (Nat → Int32) → va_W} (hws : ∀ g, ws.set q0 (a, .inl (y 0, n, .inl g)) = ws' g) (hdg : decode cc pc = .ok (.iastore, 1))
    (kk : ∀ (g : Nat → Int32) (H1 : Heap) (locs1 : List Loc), g = upd f i.toNatClampNeg x → zPD D A (ws' g) H1 → va_S A H0 H1 locs1 → W p l e R s m args below meth c H1 locs1 cells slots Q (F0 m (pc + 1) ls rest)) : W p l e R s m args below meth c H locs cells slots Q (F0 m pc ls (.int x :: .int i :: .ref a :: rest)) :=
  ziast hx hb hK hS hW q0 ha hin rfl (hws _) hdg (fun H1 locs1 a b => kk _ H1 locs1 rfl a b)
theorem zzastN (hx : p.tables.exec = Jvm.exec) (hb : c.code = cc) {a : Nat} (hK : zK D y s) (hS : va_S A H0 H locs) (hW : zPD D A ws H) (q0 : Nat) {n : Nat} {f : Nat → Int32} (ha : ws[q0]? = some (a, .inl (y 2, n, .inl f))) {i x : Int32} (hin : vp_in i n) {ws' : (Nat → Int32) → va_W} (hws : ∀ g, ws.set q0 (a, .inl (y 2, n, .inl g)) = ws' g) (hdg : decode cc pc = .ok (.bastore, 1))
    (kk : ∀ (g : Nat → Int32) (H1 : Heap) (locs1 : List Loc), g = upd f i.toNatClampNeg (vp_nar .boolean x) → zPD D A (ws' g) H1 → va_S A H0 H1 locs1 → W p l e R s m args below meth c H1 locs1 cells slots Q (F0 m (pc + 1) ls rest)) : W p l e R s m args below meth c H locs cells slots Q (F0 m pc ls (.int x :: .int i :: .ref a :: rest)) :=
  zzast hx hb hK hS hW q0 ha hin rfl (hws _) hdg (fun H1 locs1 a b => kk _ H1 locs1 rfl a b)
theorem zlastN (hx : p.tables.exec = Jvm.exec) (hb : c.code = cc) {a : Nat} (hK : zK D y s) (hS : va_S A H0 H locs) (hW : zPD D A ws H) (q0 : Nat) {n : Nat} {f : Nat → Int64} (ha : ws[q0]? = some (a, .inl (y 1, n, .inr (.inl f)))) {i : Int32} {x : Int64} (hin : vp_in i n) {ws' : (Nat → Int64) → va_W} (hws : ∀ g, ws.set q0 (a, .inl (y 1, n, .inr (.inl g))) = ws' g) (hdg : decode cc pc = .ok (.lastore, 1))
    (kk : ∀ (g : Nat → Int64) (H1 : Heap) (locs1 : List Loc), g = vp_updL f i.toNatClampNeg x → zPD D A (ws' g) H1 → va_S A H0 H1 locs1 → W p l e R s m args below meth c H1 locs1 cells slots Q (F0 m (pc + 1) ls rest)) : W p l e R s m args below meth c H locs cells slots Q (F0 m pc ls (.long x :: .int i :: .ref a :: rest)) :=
  zlast hx hb hK hS hW q0 ha hin rfl (hws _) hdg (fun H1 locs1 a b => kk _ H1 locs1 rfl a b)
end ZN
theorem zall_upd {f g : Nat → Int32} {k : Nat} {x : Int32} {lo hi : Int} (e : g = upd f k x) (hf : ∀ j, lo ≤ (f j).toInt ∧ (f j).toInt ≤ hi) (hx : lo ≤ x.toInt ∧ x.toInt ≤ hi) : ∀ j, lo ≤ (g j).toInt ∧ (g j).toInt ≤ hi := by
  intro j
  rw [e]
  unfold upd
  split
  · exact hx
  · exact hf j
theorem zboolr (x : Int32) : 0 ≤ (vp_nar .boolean x).toInt ∧ (vp_nar .boolean x).toInt ≤ 1 := by
  have h : vp_nar .boolean x = x &&& 1 := rfl
  rw [h]
  obtain ⟨j, hj, e⟩ := pk_andE x (m := 1) 1 (by decide)
  rw [e, nI_toInt (by omega)]
  omega
theorem zall_updZ {f g : Nat → Int32} {k : Nat} {x : Int32} (e : g = upd f k (vp_nar .boolean x)) (hf : ∀ j, 0 ≤ (f j).toInt ∧ (f j).toInt ≤ 1) : ∀ j, 0 ≤ (g j).toInt ∧ (g j).toInt ≤ 1 := zall_upd e hf (zboolr x)
theorem zn_bool {x : Int32} (h : 0 ≤ x.toInt ∧ x.toInt ≤ 1) : narrow .boolean (.int x) = .int x := by
  have h2 : x = 0 ∨ x = 1 := by
    rcases (show x.toInt = 0 ∨ x.toInt = 1 by omega) with e | e
    · exact Or.inl ((zi_eq _ _).mpr (by rw [e]; decide))
    · exact Or.inr ((zi_eq _ _).mpr (by rw [e]; decide))
  rcases h2 with rfl | rfl <;> rfl
theorem zpos {x : Int32} (h : 0 ≤ x.toInt) : ∃ j : Nat, j < 2 ^ 31 ∧ x = nI j := nI_of (fun q => by have u := (zi_lt _ _).mp q; have w : (0 : Int32).toInt = 0 := (by decide); omega)
theorem zrem_p (x : Int32) (d : Nat) (h : 0 ≤ x.toInt) (h0 : 0 < d) (hd : d < 2 ^ 31) : 0 ≤ (x - x / nI d * nI d).toInt ∧ (x - x / nI d * nI d).toInt ≤ (d : Int) - 1 := by
  obtain ⟨j, hj, rfl⟩ := zpos h
  rw [pk_rem hj h0 hd, nI_toInt (by have := Nat.mod_lt j h0; omega)]
  have := Nat.mod_lt j h0
  omega
theorem zdiv_p (x : Int32) (d : Nat) (h : 0 ≤ x.toInt) (h0 : 0 < d) (hd : d < 2 ^ 31) : (x / nI d).toInt = x.toInt / (d : Int) := by
  obtain ⟨j, hj, rfl⟩ := zpos h
  rw [pk_div hj h0 hd, nI_toInt hj, nI_toInt (by have := Nat.div_le_self j d; omega)]
  exact Int.natCast_ediv j d
theorem zsw_ne {x k : Int32} {n : Int} (h : ¬ x = k) (hk : k.toInt = n) : ¬ n = x.toInt := fun q => h ((zi_eq _ _).mpr (by rw [hk, q]))
