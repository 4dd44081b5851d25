/-! the steps: an instruction is (what, a, b, c, d, a number, where it goes on) -/
abbrev pvO : Type := Nat × Nat × Nat × Nat × Nat × Int32 × Nat
abbrev pvS : Type := Nat × List (Option pvV) × List pvV × pvM
def pvbad (S : pvS) : Prop × pvS := (False, S)
def pvs_load (a b nx : Nat) (S : pvS) : Prop × pvS := match S.2.1.getD a none with
  | some (.inl x) => bif Nat.blt b 2 then (True, nx, S.2.1, pvI x :: S.2.2.1, S.2.2.2) else pvbad S
  | some (.inr (.inl x)) => bif Nat.ble 4 b then (True, nx, S.2.1, pvJ x :: S.2.2.1, S.2.2.2) else pvbad S
  | some (.inr (.inr q)) => bif Nat.ble 2 b && Nat.blt b 4 then (True, nx, S.2.1, pvR q :: S.2.2.1, S.2.2.2) else pvbad S
  | none => pvbad S
def pvs_store (a b nx : Nat) (S : pvS) : Prop × pvS := match S.2.2.1 with
  | .inl x :: r => bif Nat.blt b 2 && pvok S.2.1 a then (True, nx, S.2.1.set a (some (pvI x)), r, S.2.2.2) else pvbad S
  | .inr (.inl x) :: r => bif Nat.ble 4 b && pvok S.2.1 a && Nat.blt (a + 1) S.2.1.length then (True, nx, (S.2.1.set a (some (pvJ x))).set (a + 1) none, r, S.2.2.2) else pvbad S
  | .inr (.inr q) :: r => bif Nat.ble 2 b && Nat.blt b 4 && pvok S.2.1 a then (True, nx, S.2.1.set a (some (pvR q)), r, S.2.2.2) else pvbad S
  | [] => pvbad S
def pvs_const (v : Int32) (nx : Nat) (S : pvS) : Prop × pvS := (True, nx, S.2.1, pvI v :: S.2.2.1, S.2.2.2)
def pvs_lconst (b nx : Nat) (S : pvS) : Prop × pvS := (True, nx, S.2.1, pvJ (bif Nat.beq b 0 then 0 else bif Nat.beq b 1 then 1 else (-9223372036854775808)) :: S.2.2.1, S.2.2.2)
def pvbin (b : Nat) (x y : Int32) : Int32 :=
  bif Nat.beq b 0 then x + y else bif Nat.beq b 1 then x - y else bif Nat.beq b 2 then x * y else bif Nat.beq b 3 then x &&& y else bif Nat.beq b 4 then x ||| y else bif Nat.beq b 5 then x ^^^ y
  else bif Nat.beq b 6 then x <<< (y &&& 31) else bif Nat.beq b 7 then x >>> (y &&& 31) else (x.toUInt32 >>> (y.toUInt32 &&& Int32.toUInt32 31)).toInt32
def pvs_bin (b nx : Nat) (S : pvS) : Prop × pvS := match S.2.2.1 with
  | .inl y :: .inl x :: r => (True, nx, S.2.1, pvI (pvbin b x y) :: r, S.2.2.2)
  | _ => pvbad S
def pvs_div (b nx : Nat) (S : pvS) : Prop × pvS := match S.2.2.1 with
  | .inl y :: .inl x :: r => (¬ y = 0, nx, S.2.1, pvI (bif Nat.beq b 0 then x / y else x - x / y * y) :: r, S.2.2.2)
  | _ => pvbad S
def pvun (b : Nat) (x : Int32) : Int32 := bif Nat.beq b 0 then -x else bif Nat.beq b 1 then x.toInt8.toInt32 else bif Nat.beq b 2 then x.toInt16.toInt32 else (x.toUInt32 % 65536).toInt32
def pvs_un (b nx : Nat) (S : pvS) : Prop × pvS := match S.2.2.1 with
  | .inl x :: r => (True, nx, S.2.1, pvI (pvun b x) :: r, S.2.2.2)
  | _ => pvbad S
def pvs_i2l (nx : Nat) (S : pvS) : Prop × pvS := match S.2.2.1 with
  | .inl x :: r => (True, nx, S.2.1, pvJ x.toInt64 :: r, S.2.2.2)
  | _ => pvbad S
def pvs_l2i (nx : Nat) (S : pvS) : Prop × pvS := match S.2.2.1 with
  | .inr (.inl x) :: r => (True, nx, S.2.1, pvI x.toInt32 :: r, S.2.2.2)
  | _ => pvbad S
def pvs_lcmp (nx : Nat) (S : pvS) : Prop × pvS := match S.2.2.1 with
  | .inr (.inl y) :: .inr (.inl x) :: r => (True, nx, S.2.1, pvI (lg_cmp x y) :: r, S.2.2.2)
  | _ => pvbad S
def pvs_dup (nx : Nat) (S : pvS) : Prop × pvS := match S.2.2.1 with
  | v :: r => bif !pvlg v then (True, nx, S.2.1, v :: v :: r, S.2.2.2) else pvbad S
  | _ => pvbad S
def pvs_pop (nx : Nat) (S : pvS) : Prop × pvS := match S.2.2.1 with
  | v :: r => bif !pvlg v then (True, nx, S.2.1, r, S.2.2.2) else pvbad S
  | _ => pvbad S
def pvs_dup_x1 (nx : Nat) (S : pvS) : Prop × pvS := match S.2.2.1 with
  | v :: w :: r => bif !pvlg v && !pvlg w then (True, nx, S.2.1, v :: w :: v :: r, S.2.2.2) else pvbad S
  | _ => pvbad S
/-- a field: of class b the c-th, d its kind and how far -/
def pvs_get (b c d nx : Nat) (S : pvS) : Prop × pvS := match S.2.2.1 with
  | .inr (.inr q) :: r => (pvkl q = b, nx, S.2.1, pvfv (d / 1000) (d % 1000) q c (S.2.2.2.1 q) :: r, S.2.2.2)
  | _ => pvbad S
def pvs_put (b c d nx : Nat) (S : pvS) : Prop × pvS := match S.2.2.1 with
  | .inl x :: .inr (.inr q) :: r => bif Nat.beq d 0 then (pvkl q = b, nx, S.2.1, r, pvu S.2.2.2 q c x) else bif Nat.beq d 1000 then (pvkl q = b ∧ (x = 0 ∨ x = 1), nx, S.2.1, r, pvu S.2.2.2 q c x) else pvbad S
  | .inr (.inr z) :: .inr (.inr q) :: r => bif Nat.beq d 3000 then (pvkl q = b ∧ pvkl z = 2, nx, S.2.1, r, pvu S.2.2.2 q c (nI z)) else pvbad S
  | _ => pvbad S
def pvs_ald (nx : Nat) (S : pvS) : Prop × pvS := match S.2.2.1 with
  | .inl i :: .inr (.inr q) :: r => (pvkl q = 20 ∧ vp_in i (pvln q), nx, S.2.1, pvI (S.2.2.2.1 q i.toNatClampNeg) :: r, S.2.2.2)
  | _ => pvbad S
def pvs_zld (nx : Nat) (S : pvS) : Prop × pvS := match S.2.2.1 with
  | .inl i :: .inr (.inr q) :: r => (pvkl q = 22 ∧ vp_in i (pvln q), nx, S.2.1, pvI (S.2.2.2.1 q i.toNatClampNeg) :: r, S.2.2.2)
  | _ => pvbad S
def pvs_lld (nx : Nat) (S : pvS) : Prop × pvS := match S.2.2.1 with
  | .inl i :: .inr (.inr q) :: r => (pvkl q = 21 ∧ vp_in i (pvln q), nx, S.2.1, pvJ (S.2.2.2.2 q i.toNatClampNeg) :: r, S.2.2.2)
  | _ => pvbad S
def pvs_rld (b nx : Nat) (S : pvS) : Prop × pvS := match S.2.2.1 with
  | .inl i :: .inr (.inr q) :: r => bif Nat.ble 23 b && Nat.ble b 25 then (pvkl q = b ∧ vp_in i (pvln q), nx, S.2.1, pvR (pvbs q + i.toNatClampNeg) :: r, S.2.2.2) else pvbad S
  | _ => pvbad S
def pvs_ast (nx : Nat) (S : pvS) : Prop × pvS := match S.2.2.1 with
  | .inl x :: .inl i :: .inr (.inr q) :: r => (pvkl q = 20 ∧ vp_in i (pvln q), nx, S.2.1, r, pvu S.2.2.2 q i.toNatClampNeg x)
  | _ => pvbad S
def pvs_zst (nx : Nat) (S : pvS) : Prop × pvS := match S.2.2.1 with
  | .inl x :: .inl i :: .inr (.inr q) :: r => (pvkl q = 22 ∧ vp_in i (pvln q), nx, S.2.1, r, pvu S.2.2.2 q i.toNatClampNeg (vp_nar .boolean x))
  | _ => pvbad S
def pvs_lst (nx : Nat) (S : pvS) : Prop × pvS := match S.2.2.1 with
  | .inr (.inl x) :: .inl i :: .inr (.inr q) :: r => (pvkl q = 21 ∧ vp_in i (pvln q), nx, S.2.1, r, pvw S.2.2.2 q i.toNatClampNeg x)
  | _ => pvbad S
def pvs_len (b nx : Nat) (S : pvS) : Prop × pvS := match S.2.2.1 with
  | .inr (.inr q) :: r => bif Nat.ble 20 b && Nat.ble b 25 then (pvkl q = b, nx, S.2.1, pvI (Int32.ofNat (pvln q)) :: r, S.2.2.2) else pvbad S
  | _ => pvbad S
def pvs_goto (a : Nat) (S : pvS) : Prop × pvS := (True, a, S.2.1, S.2.2.1, S.2.2.2)
def pvs_iinc (a : Nat) (v : Int32) (nx : Nat) (S : pvS) : Prop × pvS := match S.2.1.getD a none with
  | some (.inl x) => bif pvok S.2.1 a then (True, nx, S.2.1.set a (some (pvI (x + v))), S.2.2.1, S.2.2.2) else pvbad S
  | _ => pvbad S
def pvs_math (b nx : Nat) (S : pvS) : Prop × pvS := match S.2.2.1 with
  | .inl y :: r => bif Nat.beq b 2 then (r.length ≤ 4, nx, S.2.1, pvI (if 0 ≤ y then y else 0 - y) :: r, S.2.2.2) else (match r with
    | .inl x :: r => (r.length ≤ 4, nx, S.2.1, pvI (bif Nat.beq b 0 then (if x < y then y else x) else (if y < x then y else x)) :: r, S.2.2.2)
    | _ => pvbad S)
  | _ => pvbad S
def pvs_copy (b nx : Nat) (S : pvS) : Prop × pvS := match S.2.2.1 with
  | .inl n :: .inl dp :: .inr (.inr z) :: .inl sp :: .inr (.inr q) :: r => bif Nat.beq b 0 then (pvkl q = 20 ∧ pvkl z = 20 ∧ ¬ sp < 0 ∧ ¬ dp < 0 ∧ ¬ n < 0 ∧ sp.toNatClampNeg + n.toNatClampNeg ≤ pvln q ∧ dp.toNatClampNeg + n.toNatClampNeg ≤ pvln z ∧ r.length ≤ 4, nx, S.2.1, r, pvr S.2.2.2 z (va_cpy (S.2.2.2.1 q) (S.2.2.2.1 z) sp.toNatClampNeg dp.toNatClampNeg n.toNatClampNeg))
    else (pvkl q = 21 ∧ pvkl z = 21 ∧ ¬ sp < 0 ∧ ¬ dp < 0 ∧ ¬ n < 0 ∧ sp.toNatClampNeg + n.toNatClampNeg ≤ pvln q ∧ dp.toNatClampNeg + n.toNatClampNeg ≤ pvln z ∧ r.length ≤ 4, nx, S.2.1, r, pvrL S.2.2.2 z (va_cpy (S.2.2.2.2 q) (S.2.2.2.2 z) sp.toNatClampNeg dp.toNatClampNeg n.toNatClampNeg))
  | _ => pvbad S
/-- what the machine itself holds: the Kinds above (1040), the bodies of acts (1041) -/
def pvs_gets (b nx : Nat) (S : pvS) : Prop × pvS := (True, nx, S.2.1, pvR (1040 + b) :: S.2.2.1, S.2.2.2)
def pvstab (q : Nat) : List Int32 := bif Nat.beq q 1040 then zab else zbo
def pvs_sld (nx : Nat) (S : pvS) : Prop × pvS := match S.2.2.1 with
  | .inl i :: .inr (.inr q) :: r => ((q = 1040 ∨ q = 1041) ∧ vp_in i (pvstab q).length, nx, S.2.1, pvI ((pvstab q).getD i.toNatClampNeg 0) :: r, S.2.2.2)
  | _ => pvbad S
def pvs_slen (nx : Nat) (S : pvS) : Prop × pvS := match S.2.2.1 with
  | .inr (.inr q) :: r => (q = 1040 ∨ q = 1041, nx, S.2.1, pvI (Int32.ofNat (pvstab q).length) :: r, S.2.2.2)
  | _ => pvbad S
def pvs_ldcs (b nx : Nat) (S : pvS) : Prop × pvS := (b < 7, nx, S.2.1, pvR (1010 + b) :: S.2.2.1, S.2.2.2)
def pvstep (o : pvO) (S : pvS) : Prop × pvS := match o with
  | (op, a, b, c, d, v, nx) => match op with
    | 0 => pvs_load a b nx S
    | 1 => pvs_store a b nx S
    | 2 => pvs_const v nx S
    | 3 => pvs_lconst b nx S
    | 4 => pvs_bin b nx S
    | 5 => pvs_div b nx S
    | 6 => pvs_un b nx S
    | 7 => pvs_i2l nx S
    | 8 => pvs_l2i nx S
    | 9 => pvs_lcmp nx S
    | 10 => pvs_dup nx S
    | 11 => pvs_pop nx S
    | 12 => pvs_dup_x1 nx S
    | 13 => pvs_get b c d nx S
    | 14 => pvs_put b c d nx S
    | 15 => pvs_ald nx S
    | 16 => pvs_zld nx S
    | 17 => pvs_lld nx S
    | 18 => pvs_rld b nx S
    | 19 => pvs_ast nx S
    | 20 => pvs_zst nx S
    | 21 => pvs_lst nx S
    | 22 => pvs_len b nx S
    | 23 => pvs_goto a S
    | 24 => pvs_iinc a v nx S
    | 25 => pvs_math b nx S
    | 26 => pvs_copy b nx S
    | 27 => pvs_gets b nx S
    | 28 => pvs_sld nx S
    | 29 => pvs_slen nx S
    | 30 => pvs_ldcs b nx S
    | _ => pvbad S
