/-! the machine of our own as a whole; its runs are the machine's -/
def pvlook : List (Nat × pvO) → Nat → pvO
  | [], _ => (99, 0, 0, 0, 0, 0, 0)
  | (k, o) :: t, pc => bif Nat.beq k pc then o else pvlook t pc
theorem pvlook_mem : ∀ (L : List (Nat × pvO)) (pc : Nat), (pvlook L pc).1 < 99 → (pc, pvlook L pc) ∈ L
  | [], _, h => by simp [pvlook] at h
  | (k, o) :: t, pc, h => by
    unfold pvlook at h ⊢
    cases hk : Nat.beq k pc with
    | true =>
      have := Nat.eq_of_beq_eq_true hk
      subst this
      exact List.mem_cons_self
    | false =>
      rw [hk] at h
      exact List.mem_cons_of_mem _ (pvlook_mem t pc h)
def pvcond (b : Nat) : ClassFile.Cond := match b with
  | 0 => .eq
  | 1 => .ne
  | 2 => .lt
  | 3 => .ge
  | 4 => .gt
  | _ => .le
def pvrel (b : Nat) (x y : Int32) : Prop := match b with
  | 0 => x = y
  | 1 => ¬ x = y
  | 2 => x < y
  | 3 => y ≤ x
  | 4 => y < x
  | _ => x ≤ y
def pvswR : List (Int32 × Nat) → Nat → Int32 → Nat → Prop
  | [], d, _, t => t = d
  | (k, tk) :: r, d, x, t => (x = k ∧ t = tk) ∨ (¬ x = k ∧ pvswR r d x t)
def pvtl (pc : Nat) : Int → List Int → List (Int32 × Nat)
  | _, [] => []
  | lo, o :: r => (Int32.ofInt lo, ((pc : Int) + o).toNat) :: pvtl pc (lo + 1) r
def pvswc (i : Except DecodeError (Instr × Nat)) (pc : Nat) (L : List (Int32 × Nat) × Nat) : Bool := match i with
  | .ok (.tableswitch d lo hi offs, _) => decide (L.1 = pvtl pc lo offs.toList) && decide ((L.2 : Int) = (pc : Int) + d) && decide (-2147483648 ≤ lo) && decide (lo + offs.toList.length ≤ 2147483648) && decide (hi + 1 = lo + offs.toList.length) && offs.toList.all (fun o => decide (0 ≤ (pc : Int) + o))
  | .ok (.lookupswitch d ps, _) => decide (L.1 = ps.toList.map (fun q => (Int32.ofInt q.1, ((pc : Int) + q.2).toNat))) && decide ((L.2 : Int) = (pc : Int) + d) && ps.toList.all (fun q => decide (0 ≤ (pc : Int) + q.2) && decide (-2147483648 ≤ q.1) && decide (q.1 < 2147483648)) && (ps.toList.zip (ps.toList.drop 1)).all (fun (a, next) => a.1 < next.1)
  | _ => false
theorem pvoi {n : Int} (h1 : -2147483648 ≤ n) (h2 : n < 2147483648) : (Int32.ofInt n).toInt = n := by
  rw [Int32.toInt_ofInt]
  show Int.bmod n 4294967296 = n
  rw [Int.bmod_eq_of_le] <;> omega
theorem pvtl_ok (pc : Nat) (x : Int32) (d t : Nat) : ∀ (os : List Int) (lo : Int), -2147483648 ≤ lo → lo + os.length ≤ 2147483648 → (os.all fun o => decide (0 ≤ (pc : Int) + o)) = true → pvswR (pvtl pc lo os) d x t →
    ((x.toInt < lo ∨ lo + os.length ≤ x.toInt) ∧ t = d) ∨ ∃ (i : Nat) (o : Int), os[i]? = some o ∧ x.toInt = lo + i ∧ (t : Int) = (pc : Int) + o
  | [], lo, _, _, _, h => Or.inl ⟨by simp; omega, h⟩
  | o :: os, lo, h1, h2, h3, h => by
    simp only [List.all_cons, Bool.and_eq_true, decide_eq_true_eq] at h3
    simp only [List.length_cons] at h2
    rcases h with ⟨rfl, rfl⟩ | ⟨hne, h⟩
    · refine Or.inr ⟨0, o, rfl, ?_, ?_⟩
      · rw [pvoi h1 (by omega)]; simp
      · rw [Int.toNat_of_nonneg h3.1]
    · have hx : ¬ x.toInt = lo := fun u => hne (Int32.toInt_inj.mp (by rw [pvoi h1 (by omega)]; exact u))
      rcases pvtl_ok pc x d t os (lo + 1) (by omega) (by omega) h3.2 h with ⟨u, v⟩ | ⟨i, w, u1, u2, u3⟩
      · refine Or.inl ⟨?_, v⟩
        simp only [List.length_cons]
        omega
      · exact Or.inr ⟨i + 1, w, by simpa using u1, by omega, u3⟩
theorem pvlk_ok (pc : Nat) (x : Int32) (d t : Nat) (df : Int) (hd : (d : Int) = (pc : Int) + df) : ∀ (ps : List (Int × Int)), (ps.all fun q => decide (0 ≤ (pc : Int) + q.2) && decide (-2147483648 ≤ q.1) && decide (q.1 < 2147483648)) = true → pvswR (ps.map fun q => (Int32.ofInt q.1, ((pc : Int) + q.2).toNat)) d x t → (pc : Int) + Op.lookupswitch.offset ps df x.toInt = (t : Int)
  | [], _, h => by
    have h : t = d := h
    subst h
    rw [Op.lookupswitch.offset_nil]
    omega
  | (a, o) :: ps, h3, h => by
    simp only [List.all_cons, Bool.and_eq_true, decide_eq_true_eq] at h3
    rcases h with ⟨rfl, rfl⟩ | ⟨hne, h⟩
    · rw [Op.lookupswitch.offset_cons, if_pos (pvoi h3.1.1.2 h3.1.2).symm]
      exact (Int.toNat_of_nonneg h3.1.1.1).symm
    · have hx : ¬ a = x.toInt := fun u => hne (Int32.toInt_inj.mp (by rw [pvoi h3.1.1.2 h3.1.2]; exact u.symm))
      rw [Op.lookupswitch.offset_cons, if_neg hx]
      exact pvlk_ok pc x d t df hd ps h3.2 h
def pvpush (r : Option pvV) (st : List pvV) : List pvV := match r with
  | none => st
  | some v => v :: st
def pvsl : List pvV → List (Option pvV)
  | [] => []
  | .inr (.inl x) :: t => some (pvJ x) :: none :: pvsl t
  | .inl x :: t => some (pvI x) :: pvsl t
  | .inr (.inr q) :: t => some (pvR q) :: pvsl t
def pvent (ml : Nat) (as : List pvV) : List (Option pvV) := pvsl as ++ List.replicate (ml - (pvsl as).length) none
def pvrcv (j : Nat) (as : List pvV) : Prop := match as with
  | .inr (.inr q) :: _ => pvkl q = pvci j
  | _ => False
def pvret (b : Nat) (S : pvS) (r : Option pvV) (M' : pvM) : Prop := match b, S.2.2.1 with
  | 0, [] => r = none ∧ M' = S.2.2.2
  | 1, [.inl x] => r = some (pvI x) ∧ M' = S.2.2.2
  | 2, [.inl x] => (x = 0 ∨ x = 1) ∧ r = some (pvI x) ∧ M' = S.2.2.2
  | 3, [.inr (.inl x)] => r = some (pvJ x) ∧ M' = S.2.2.2
  | 4, [.inr (.inr q)] => r = some (pvR q) ∧ M' = S.2.2.2
  | _, _ => False
def pvif (b a nx : Nat) (S : pvS) (F : pvS → Prop) : Prop := match S.2.2.1 with
  | .inl x :: r => (pvrel b x 0 → F (a, S.2.1, r, S.2.2.2)) ∧ (¬ pvrel b x 0 → F (nx, S.2.1, r, S.2.2.2))
  | _ => False
def pvic (b a nx : Nat) (S : pvS) (F : pvS → Prop) : Prop := match S.2.2.1 with
  | .inl y :: .inl x :: r => (pvrel b x y → F (a, S.2.1, r, S.2.2.2)) ∧ (¬ pvrel b x y → F (nx, S.2.1, r, S.2.2.2))
  | _ => False
def pvsw (L : List (Int32 × Nat) × Nat) (S : pvS) (F : pvS → Prop) : Prop := match S.2.2.1 with
  | .inl x :: r => ∃ t, pvswR L.1 L.2 x t ∧ F (t, S.2.1, r, S.2.2.2)
  | _ => False
/-- what a String constant answers: length, isEmpty, charAt, indexOf -/
def pvixF (c : Int32) : List Int32 → Nat → Int32
  | [], _ => -1
  | b :: l, k => if b = c then nI k else pvixF c l (k + 1)
def pvsx (b nx : Nat) (S : pvS) (F : pvS → Prop) : Prop := match b, S.2.2.1 with
  | 0, .inr (.inr q) :: r => 1010 ≤ q ∧ q < 1017 ∧ r.length ≤ 4 ∧ F (nx, S.2.1, pvI (nI (zsl.getD (q - 1010) 0)) :: r, S.2.2.2)
  | 1, .inr (.inr q) :: r => 1010 ≤ q ∧ q < 1017 ∧ r.length ≤ 4 ∧ F (nx, S.2.1, pvI (if zsl.getD (q - 1010) 0 = 0 then 1 else 0) :: r, S.2.2.2)
  | 2, .inl x :: .inr (.inr q) :: r => 1010 ≤ q ∧ q < 1017 ∧ r.length ≤ 4 ∧ vp_in x (zsl.getD (q - 1010) 0) ∧ F (nx, S.2.1, pvI ((zsb.getD (q - 1010) []).getD x.toNatClampNeg 0) :: r, S.2.2.2)
  | 3, .inl x :: .inr (.inr q) :: r => 1010 ≤ q ∧ q < 1017 ∧ r.length ≤ 4 ∧ 0 ≤ x ∧ x < 128 ∧ F (nx, S.2.1, pvI (pvixF x (zsb.getD (q - 1010) []) 0) :: r, S.2.2.2)
  | _, _ => False
def pvEv : Nat → Nat → Nat → pvS → Option pvV → pvM → Prop
  | 0, _, _, _, _, _ => False
  | n + 1, j, d, S, r, M' => match pvlook (pvdom j) S.1 with
    | (op, a, b, c, dd, v, nx) =>
      if op < 50 then (pvstep (op, a, b, c, dd, v, nx) S).1 ∧ pvEv n j d (pvstep (op, a, b, c, dd, v, nx) S).2 r M'
      else if op = 60 then pvif b a nx S (fun S' => pvEv n j d S' r M')
      else if op = 61 then pvic b a nx S (fun S' => pvEv n j d S' r M')
      else if op = 62 then pvsw (pvSw a) S (fun S' => pvEv n j d S' r M')
      else if op = 80 then ∃ r1 M1, (S.2.2.1.drop c).length ≤ 4 ∧ c ≤ S.2.2.1.length ∧ (dd % 2 = 1 → pvrcv b (S.2.2.1.take c).reverse) ∧ dd / 2 ≤ d ∧ (pvsl (S.2.2.1.take c).reverse).length ≤ pvml b ∧
        pvEv n b (d - dd / 2) (0, pvent (pvml b) (S.2.2.1.take c).reverse, [], S.2.2.2) r1 M1 ∧ pvEv n j d (nx, S.2.1, pvpush r1 (S.2.2.1.drop c), M1) r M'
      else if op = 81 then pvsx b nx S (fun S' => pvEv n j d S' r M')
      else if op = 90 then pvret b S r M'
      else False
def pvdec (j pc : Nat) (i : Instr × Nat) : Bool := decide (decode (pvcc j) pc = .ok i)
def pvi_ret (b : Nat) : Instr × Nat := match b with
  | 0 => (.return_, 1)
  | 3 => (.lreturn, 1)
  | 4 => (.areturn, 1)
  | _ => (.ireturn, 1)
def pvobj (t : Option FieldType) : Bool := match t with
  | some (.object _) => true
  | _ => false
/-- an end's kind, and the method's -/
def pvrk (j b : Nat) : Bool := (decide (b = 0) && decide (pvrt j = none) && decide (pvkd j = 0)) || (decide (b = 1) && decide (pvrt j = some .int) && decide (pvkd j = 1)) || (decide (b = 2) && decide (pvrt j = some .boolean) && decide (pvkd j = 1)) || (decide (b = 3) && decide (pvrt j = some .long) && decide (pvkd j = 2)) || (decide (b = 4) && pvobj (pvrt j) && decide (pvkd j = 3))
/-- an instruction of the tables is the code's -/
def pvchk (j pc : Nat) (o : pvO) : Bool := match o with
  | (op, a, b, c, d, v, nx) => match op with
    | 0 => pvdec j pc (pvi_load a b) && decide (nx = pc + (pvi_load a b).2) && (decide (a < 4) || decide (b % 2 = 1))
    | 1 => pvdec j pc (pvi_store a b) && decide (nx = pc + (pvi_store a b).2) && (decide (a < 4) || decide (b % 2 = 1)) && decide (a < pvml j) && (decide (b < 4) || decide (a + 1 < pvml j))
    | 2 => pvdec j pc (pvi_const a b v) && decide (nx = pc + (pvi_const a b v).2) && (decide (b = 0) || (decide (b = 1) && decide ((Int8.ofInt v.toInt).toInt32 = v)) || (decide (b = 2) && decide ((Int16.ofInt v.toInt).toInt32 = v)) || (decide (3 ≤ b) && decide ((pvo j, a, v) ∈ pvK)))
    | 3 => pvdec j pc (pvi_lconst a b) && decide (nx = pc + (pvi_lconst a b).2) && (decide (b < 2) || decide ((pvo j, a) ∈ pvKJ))
    | 4 => pvdec j pc (pvi_bin b) && decide (nx = pc + 1)
    | 5 => pvdec j pc (pvi_div b) && decide (nx = pc + 1)
    | 6 => pvdec j pc (pvi_un b) && decide (nx = pc + 1)
    | 7 => pvdec j pc (.i2l, 1) && decide (nx = pc + 1)
    | 8 => pvdec j pc (.l2i, 1) && decide (nx = pc + 1)
    | 9 => pvdec j pc (.lcmp, 1) && decide (nx = pc + 1)
    | 10 => pvdec j pc (.dup, 1) && decide (nx = pc + 1)
    | 11 => pvdec j pc (.pop, 1) && decide (nx = pc + 1)
    | 12 => pvdec j pc (.dup_x1, 1) && decide (nx = pc + 1)
    | 13 => pvdec j pc (.getfield a, 3) && decide (nx = pc + 3) && decide ((pvo j, a, b, c, d / 1000) ∈ pvF) && decide (pvfk b c = (d / 1000, d % 1000))
    | 14 => pvdec j pc (.putfield a, 3) && decide (nx = pc + 3) && decide ((pvo j, a, b, c, d / 1000) ∈ pvF) && decide (pvfk b c = (d / 1000, d % 1000))
    | 15 => pvdec j pc (.iaload, 1) && decide (nx = pc + 1)
    | 16 => pvdec j pc (.baload, 1) && decide (nx = pc + 1)
    | 17 => pvdec j pc (.laload, 1) && decide (nx = pc + 1)
    | 18 => pvdec j pc (.aaload, 1) && decide (nx = pc + 1)
    | 19 => pvdec j pc (.iastore, 1) && decide (nx = pc + 1)
    | 20 => pvdec j pc (.bastore, 1) && decide (nx = pc + 1)
    | 21 => pvdec j pc (.lastore, 1) && decide (nx = pc + 1)
    | 22 => pvdec j pc (.arraylength, 1) && decide (nx = pc + 1)
    | 23 => pvdec j pc (.goto ((a : Int) - (pc : Int)), 3)
    | 24 => pvdec j pc (.iinc a v.toInt, 3) && decide (nx = pc + 3) && decide (a < pvml j)
    | 25 => pvdec j pc (.invokestatic a, 3) && decide (nx = pc + 3) && decide ((pvo j, a, b) ∈ pvMa) && decide (b < 3) && decide (1 ≤ pvfr j) && decide (21 ≤ pvlc j)
    | 26 => pvdec j pc (.invokestatic a, 3) && decide (nx = pc + 3) && decide ((pvo j, a) ∈ pvAc) && decide (1 ≤ pvfr j) && decide (8 + (nativeFrameWords "java/lang/System" "arraycopy" 5 + 11) ≤ pvlc j)
    | 27 => pvdec j pc (.getstatic a, 3) && decide (nx = pc + 3) && decide ((pvo j, a, b) ∈ pvGs) && decide (b < 2)
    | 28 => pvdec j pc (.iaload, 1) && decide (nx = pc + 1)
    | 29 => pvdec j pc (.arraylength, 1) && decide (nx = pc + 1)
    | 30 => pvdec j pc (.ldc a, 2) && decide (nx = pc + 2) && decide (a = zsi.getD b 0) && decide (pvcn (pvo j) = "NineWindows$Reader")
    | 60 => pvdec j pc (.ifCond (pvcond b) ((a : Int) - (pc : Int)), 3) && decide (nx = pc + 3)
    | 61 => pvdec j pc (.if_icmp (pvcond b) ((a : Int) - (pc : Int)), 3) && decide (nx = pc + 3)
    | 62 => pvswc (decode (pvcc j) pc) pc (pvSw a)
    | 80 => pvdec j pc (if d % 2 = 1 then .invokevirtual a else .invokestatic a, 3) && decide (nx = pc + 3) && decide ((pvo j, a, b, c - d % 2, d % 2) ∈ pvCa) && decide (d % 2 ≤ c) && decide (pvfr b + 1 ≤ pvfr j + d / 2 * pvKF) && decide (8 + (pvml b + 11) + pvlc b ≤ pvlc j + d / 2 * pvKL) && (decide (d % 2 = 0) || decide (pvci b < 20)) && decide (b < pvynL.length)
    | 81 => pvdec j pc (.invokevirtual a, 3) && decide (nx = pc + 3) && decide (pvcn (pvo j) = "NineWindows$Reader") && decide ((a, b) ∈ pvSx) && decide (14 ≤ pvfr j) && decide (400 ≤ pvlc j)
    | 90 => pvdec j pc (pvi_ret b) && pvrk j b
    | _ => false
