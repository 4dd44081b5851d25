theorem dX10_shift_0 : decode cX10_shift 0 = .ok (.aload_n 0, 1) := by decide +kernel
theorem dX10_shift_1 : decode cX10_shift 1 = .ok (.iload_n 1, 1) := by decide +kernel
theorem dX10_shift_10 : decode cX10_shift 10 = .ok (.invokevirtual 399, 3) := by decide +kernel
theorem dX10_shift_13 : decode cX10_shift 13 = .ok (.ifCond .ne 5, 3) := by decide +kernel
theorem dX10_shift_16 : decode cX10_shift 16 = .ok (.iconst (-1), 1) := by decide +kernel
theorem dX10_shift_17 : decode cX10_shift 17 = .ok (.ireturn, 1) := by decide +kernel
theorem dX10_shift_18 : decode cX10_shift 18 = .ok (.aload_n 0, 1) := by decide +kernel
theorem dX10_shift_19 : decode cX10_shift 19 = .ok (.getfield 229, 3) := by decide +kernel
theorem dX10_shift_2 : decode cX10_shift 2 = .ok (.invokevirtual 399, 3) := by decide +kernel
theorem dX10_shift_22 : decode cX10_shift 22 = .ok (.iload_n 1, 1) := by decide +kernel
theorem dX10_shift_23 : decode cX10_shift 23 = .ok (.iaload, 1) := by decide +kernel
theorem dX10_shift_24 : decode cX10_shift 24 = .ok (.ifCond .lt 12, 3) := by decide +kernel
theorem dX10_shift_36 : decode cX10_shift 36 = .ok (.bipush (-11), 2) := by decide +kernel
theorem dX10_shift_38 : decode cX10_shift 38 = .ok (.ireturn, 1) := by decide +kernel
theorem dX10_shift_5 : decode cX10_shift 5 = .ok (.ifCond .eq 11, 3) := by decide +kernel
theorem dX10_shift_8 : decode cX10_shift 8 = .ok (.aload_n 0, 1) := by decide +kernel
theorem dX10_shift_9 : decode cX10_shift 9 = .ok (.iload_n 3, 1) := by decide +kernel
theorem dX9_shift_0 : decode cX9_shift 0 = .ok (.iload_n 1, 1) := by decide +kernel
theorem dX9_shift_1 : decode cX9_shift 1 = .ok (.invokestatic 271, 3) := by decide +kernel
theorem dX9_shift_11 : decode cX9_shift 11 = .ok (.ifCond .ne 5, 3) := by decide +kernel
theorem dX9_shift_14 : decode cX9_shift 14 = .ok (.iconst (-1), 1) := by decide +kernel
theorem dX9_shift_15 : decode cX9_shift 15 = .ok (.ireturn, 1) := by decide +kernel
theorem dX9_shift_16 : decode cX9_shift 16 = .ok (.aload_n 0, 1) := by decide +kernel
theorem dX9_shift_17 : decode cX9_shift 17 = .ok (.getfield 60, 3) := by decide +kernel
theorem dX9_shift_20 : decode cX9_shift 20 = .ok (.iload_n 1, 1) := by decide +kernel
theorem dX9_shift_21 : decode cX9_shift 21 = .ok (.aaload, 1) := by decide +kernel
theorem dX9_shift_22 : decode cX9_shift 22 = .ok (.astore 6, 2) := by decide +kernel
theorem dX9_shift_24 : decode cX9_shift 24 = .ok (.aload_n 0, 1) := by decide +kernel
theorem dX9_shift_25 : decode cX9_shift 25 = .ok (.getfield 60, 3) := by decide +kernel
theorem dX9_shift_28 : decode cX9_shift 28 = .ok (.iload_n 3, 1) := by decide +kernel
theorem dX9_shift_29 : decode cX9_shift 29 = .ok (.aaload, 1) := by decide +kernel
theorem dX9_shift_30 : decode cX9_shift 30 = .ok (.astore 7, 2) := by decide +kernel
theorem dX9_shift_32 : decode cX9_shift 32 = .ok (.aload 6, 2) := by decide +kernel
theorem dX9_shift_34 : decode cX9_shift 34 = .ok (.invokevirtual 274, 3) := by decide +kernel
theorem dX9_shift_37 : decode cX9_shift 37 = .ok (.ifCond .ne 11, 3) := by decide +kernel
theorem dX9_shift_4 : decode cX9_shift 4 = .ok (.ifCond .eq 10, 3) := by decide +kernel
theorem dX9_shift_48 : decode cX9_shift 48 = .ok (.bipush (-11), 2) := by decide +kernel
theorem dX9_shift_50 : decode cX9_shift 50 = .ok (.ireturn, 1) := by decide +kernel
theorem dX9_shift_7 : decode cX9_shift 7 = .ok (.iload_n 3, 1) := by decide +kernel
theorem dX9_shift_8 : decode cX9_shift 8 = .ok (.invokestatic 271, 3) := by decide +kernel
set_option maxHeartbeats 8000000 in
set_option maxRecDepth 100000 in
theorem zc_X9_shift_0 (l : Launch) (D : va_G) (y : Nat → ClassId) (a0 : Nat) (p1 : Int32) (p2 : Int32) (p3 : Int32) (p4 : Int32) (p5 : Int32) (w6 : Value) (w7 : Value) (w8 : Value) (w9 : Value) (w10 : Value) (w11 : Value) (w12 : Value) (w13 : Value) (a14 : Nat) (a15 : Nat) (a16 : Nat) (a17 : Nat) (a18 : Nat) (a19 : Nat) (a20 : Nat) (w21 : Value) (w22 : Value) (w23 : Value) (w24 : Value) (w25 : Value) (w26 : Value) (w27 : Value) (w28 : Value) (w29 : Value) (w30 : Value) (w31 : Value) (w32 : Value) : zM l D y yX9_shift (Cond.code yX9_shift cX9_shift 8 (some .int) :: zT) { frames := 2, cells := 0, slots := 0, locals := 42 } [.ref a0, .int p1, .int p2, .int p3, .int p4, .int p5] [(a0, .inr (8, [w6, w7, w8, w9, w10, w11, w12, w13, .ref a14])), (a14, .inl (y 5, 6, .inr (.inr (.inr (.inr (va_up (va_up (va_up (va_up (va_up (va_up (fun _ => none) 0 (some a15)) 1 (some a16)) 2 (some a17)) 3 (some a18)) 4 (some a19)) 5 (some a20))))))), (a15, .inr (7, [.int (-1), w21, w22])), (a16, .inr (7, [.int (-1), w23, w24])), (a17, .inr (7, [.int (-1), w25, w26])), (a18, .inr (7, [.int (-1), w27, w28])), (a19, .inr (7, [.int (-1), w29, w30])), (a20, .inr (7, [.int (-1), w31, w32]))] (zQi (S := Unit) D (fun r_ _ => r_ = (if p1 < 0 then (-1) else (if 5 < p1 then (-1) else (if p3 < 0 then (-1) else (if 5 < p3 then (-1) else (-11)))))) (fun _ => [])) := by
  refine zent (cc := cX9_shift) (maxL := 8) (ret := (some .int)) (by decide) (Nat.le_of_ble_eq_true rfl) ?_
  intro p e s m below meth c A H locs ls hx hb hml hr ht hown hlocks hin hA hK hE hS hW hl
  have hown : s.vm.findClass RX9 = some m.cls := hown
  have hW : zPD D A [(a0, .inr (8, [w6, w7, w8, w9, w10, w11, w12, w13, .ref a14])), (a14, .inl (y 5, 6, .inr (.inr (.inr (.inr (va_up (va_up (va_up (va_up (va_up (va_up (fun _ => none) 0 (some a15)) 1 (some a16)) 2 (some a17)) 3 (some a18)) 4 (some a19)) 5 (some a20))))))), (a15, .inr (7, [.int (-1), w21, w22])), (a16, .inr (7, [.int (-1), w23, w24])), (a17, .inr (7, [.int (-1), w25, w26])), (a18, .inr (7, [.int (-1), w27, w28])), (a19, .inr (7, [.int (-1), w29, w30])), (a20, .inr (7, [.int (-1), w31, w32]))] H := hW
  have hl : lv_has ls 8 [(0, .ref a0), (1, .int p1), (2, .int p2), (3, .int p3), (4, .int p4), (5, .int p5)] := hl
  refine lv_iload_n hx hb dX9_shift_0 rfl (lv_at hl 1 rfl) ?_
  refine zgo0_i (zrunS (As := [.int p1]) (rest := []) ⟨hx, hb, hml, hown, ht⟩ (zc_X9_isTape_0 l D y p1) (va_cwS 1 ht (zgS zm_1086 zm_1087 zm_2 zm_1088) rfl rfl rfl (by decide +kernel) ⟨(Nat.le_of_ble_eq_true rfl), (Nat.le_of_ble_eq_true rfl)⟩) hK hE hS hA hW [] (by decide) rfl rfl hl.1 rfl (Nat.le_of_ble_eq_true rfl) dX9_shift_1 (Nat.le_of_ble_eq_true rfl) (Nat.le_of_ble_eq_true rfl)) hS hA hW (fun r1_ u H locs hw hW hS => ?_)
  have hw : r1_ = (if p1 < 0 then 0 else (if 5 < p1 then 0 else 1)) := hw
  by_cases c2_ : p1 < 0
  · have b3_ : (-2147483648) ≤ Int32.toInt p1 ∧ Int32.toInt p1 ≤ (-1) := (by have u0 := zbnd p1; have u1 := (zi_lt _ _).mp c2_; have u2 : (0 : Int32).toInt = 0 := (by decide); omega)
    rw [if_pos c2_] at hw
    subst hw
    refine lv_if_eq (tgt := 14) hx hb dX9_shift_4 (by decide) (fun c4_ => ?_) (fun c4_ => absurd (by decide) c4_)
    refine lv_iconst (v := (-1)) hx hb dX9_shift_14 (by decide) ?_
    exact zret_i (v := (-1)) hx hb hr hlocks hS () (by show _ = _; rw [if_pos c2_]) (hW.sub [] (by decide) rfl) (Nat.le_of_ble_eq_true rfl) (Nat.le_of_ble_eq_true rfl) dX9_shift_15
  · have b5_ : 0 ≤ Int32.toInt p1 ∧ Int32.toInt p1 ≤ 2147483647 := (by have u0 := zbnd p1; have u1 := (not_congr (zi_lt _ _)).mp c2_; have u2 : (0 : Int32).toInt = 0 := (by decide); omega)
    rw [if_neg c2_] at hw
    by_cases c6_ : 5 < p1
    · have b7_ : 6 ≤ Int32.toInt p1 ∧ Int32.toInt p1 ≤ 2147483647 := (by have u0 := b5_; have u1 := (zi_lt _ _).mp c6_; have u2 : (5 : Int32).toInt = 5 := (by decide); omega)
      rw [if_pos c6_] at hw
      subst hw
      refine lv_if_eq (tgt := 14) hx hb dX9_shift_4 (by decide) (fun c8_ => ?_) (fun c8_ => absurd (by decide) c8_)
      refine lv_iconst (v := (-1)) hx hb dX9_shift_14 (by decide) ?_
      exact zret_i (v := (-1)) hx hb hr hlocks hS () (by show _ = _; rw [if_neg c2_, if_pos c6_]) (hW.sub [] (by decide) rfl) (Nat.le_of_ble_eq_true rfl) (Nat.le_of_ble_eq_true rfl) dX9_shift_15
    · have b9_ : 0 ≤ Int32.toInt p1 ∧ Int32.toInt p1 ≤ 5 := (by have u0 := b5_; have u1 := (not_congr (zi_lt _ _)).mp c6_; have u2 : (5 : Int32).toInt = 5 := (by decide); omega)
      rw [if_neg c6_] at hw
      subst hw
      refine lv_if_eq (tgt := 14) hx hb dX9_shift_4 (by decide) (fun c10_ => absurd c10_ (by decide)) (fun c10_ => ?_)
      refine lv_iload_n hx hb dX9_shift_7 rfl (lv_at hl 3 rfl) ?_
      refine zgo0_i (zrunS (As := [.int p3]) (rest := []) ⟨hx, hb, hml, hown, ht⟩ (zc_X9_isTape_0 l D y p3) (va_cwS 1 ht (zgS zm_1086 zm_1087 zm_2 zm_1088) rfl rfl rfl (by decide +kernel) ⟨(Nat.le_of_ble_eq_true rfl), (Nat.le_of_ble_eq_true rfl)⟩) hK hE hS hA hW [] (by decide) rfl rfl hl.1 rfl (Nat.le_of_ble_eq_true rfl) dX9_shift_8 (Nat.le_of_ble_eq_true rfl) (Nat.le_of_ble_eq_true rfl)) hS hA hW (fun r11_ u H locs hw hW hS => ?_)
      have hw : r11_ = (if p3 < 0 then 0 else (if 5 < p3 then 0 else 1)) := hw
      by_cases c12_ : p3 < 0
      · have b13_ : (-2147483648) ≤ Int32.toInt p3 ∧ Int32.toInt p3 ≤ (-1) := (by have u0 := zbnd p3; have u1 := (zi_lt _ _).mp c12_; have u2 : (0 : Int32).toInt = 0 := (by decide); omega)
        rw [if_pos c12_] at hw
        subst hw
        refine lv_if_ne (tgt := 16) hx hb dX9_shift_11 (by decide) (fun c14_ => absurd (by decide) c14_) (fun c14_ => ?_)
        refine lv_iconst (v := (-1)) hx hb dX9_shift_14 (by decide) ?_
        exact zret_i (v := (-1)) hx hb hr hlocks hS () (by show _ = _; rw [if_neg c2_, if_neg c6_, if_pos c12_]) (hW.sub [] (by decide) rfl) (Nat.le_of_ble_eq_true rfl) (Nat.le_of_ble_eq_true rfl) dX9_shift_15
      · have b15_ : 0 ≤ Int32.toInt p3 ∧ Int32.toInt p3 ≤ 2147483647 := (by have u0 := zbnd p3; have u1 := (not_congr (zi_lt _ _)).mp c12_; have u2 : (0 : Int32).toInt = 0 := (by decide); omega)
        rw [if_neg c12_] at hw
        by_cases c16_ : 5 < p3
        · have b17_ : 6 ≤ Int32.toInt p3 ∧ Int32.toInt p3 ≤ 2147483647 := (by have u0 := b15_; have u1 := (zi_lt _ _).mp c16_; have u2 : (5 : Int32).toInt = 5 := (by decide); omega)
          rw [if_pos c16_] at hw
          subst hw
          refine lv_if_ne (tgt := 16) hx hb dX9_shift_11 (by decide) (fun c18_ => absurd (by decide) c18_) (fun c18_ => ?_)
          refine lv_iconst (v := (-1)) hx hb dX9_shift_14 (by decide) ?_
          exact zret_i (v := (-1)) hx hb hr hlocks hS () (by show _ = _; rw [if_neg c2_, if_neg c6_, if_neg c12_, if_pos c16_]) (hW.sub [] (by decide) rfl) (Nat.le_of_ble_eq_true rfl) (Nat.le_of_ble_eq_true rfl) dX9_shift_15
        · have b19_ : 0 ≤ Int32.toInt p3 ∧ Int32.toInt p3 ≤ 5 := (by have u0 := b15_; have u1 := (not_congr (zi_lt _ _)).mp c16_; have u2 : (5 : Int32).toInt = 5 := (by decide); omega)
          rw [if_neg c16_] at hw
          subst hw
          refine lv_if_ne (tgt := 16) hx hb dX9_shift_11 (by decide) (fun c20_ => ?_) (fun c20_ => absurd c20_ (by decide))
          refine lv_aload_n hx hb dX9_shift_16 rfl (lv_at hl 0 rfl) ?_
          refine zget hx hb ht inlX9 hown hK hW 0 rfl rfl 8 (by decide) zm_35 rfl dX9_shift_17 ?_
          refine lv_iload_n hx hb dX9_shift_20 rfl (lv_at hl 1 rfl) ?_
          by_cases c21_ : p1 = 0
          · have b22_ : 0 ≤ Int32.toInt p1 ∧ Int32.toInt p1 ≤ 0 := (by have u0 := b9_; have u1 := (zi_eq _ _).mp c21_; have u2 : (0 : Int32).toInt = 0 := (by decide); omega)
            refine ztop (w := .int 0) (congrArg Value.int c21_) ?_
            refine zaald (v := .ref a15) hx hb hK hW 1 5 rfl rfl (by unfold vp_in; decide) rfl dX9_shift_21 ?_
            refine lv_astore (lv' := [(6, .ref a15), (0, .ref a0), (1, .int p1), (2, .int p2), (3, .int p3), (4, .int p4), (5, .int p5)]) hx hb dX9_shift_22 hl (by decide) rfl (fun ls hl => ?_)
            refine lv_aload_n hx hb dX9_shift_24 rfl (lv_at hl 1 rfl) ?_
            refine zget hx hb ht inlX9 hown hK hW 0 rfl rfl 8 (by decide) zm_35 rfl dX9_shift_25 ?_
            refine lv_iload_n hx hb dX9_shift_28 rfl (lv_at hl 4 rfl) ?_
            by_cases c23_ : p3 = 0
            · have b24_ : 0 ≤ Int32.toInt p3 ∧ Int32.toInt p3 ≤ 0 := (by have u0 := b19_; have u1 := (zi_eq _ _).mp c23_; have u2 : (0 : Int32).toInt = 0 := (by decide); omega)
              refine ztop (w := .int 0) (congrArg Value.int c23_) ?_
              refine zaald (v := .ref a15) hx hb hK hW 1 5 rfl rfl (by unfold vp_in; decide) rfl dX9_shift_29 ?_
              refine lv_astore (lv' := [(7, .ref a15), (6, .ref a15), (0, .ref a0), (1, .int p1), (2, .int p2), (3, .int p3), (4, .int p4), (5, .int p5)]) hx hb dX9_shift_30 hl (by decide) rfl (fun ls hl => ?_)
              refine lv_aload hx hb dX9_shift_32 (lv_at hl 1 rfl) ?_
              refine zgo_i (wr := [(a0, .inr (8, [w6, w7, w8, w9, w10, w11, w12, w13, .ref a14])), (a14, .inl (y 5, 6, .inr (.inr (.inr (.inr (va_up (va_up (va_up (va_up (va_up (va_up (fun _ => none) 0 (some a15)) 1 (some a16)) 2 (some a17)) 3 (some a18)) 4 (some a19)) 5 (some a20))))))), (a16, .inr (7, [.int (-1), w23, w24])), (a17, .inr (7, [.int (-1), w25, w26])), (a18, .inr (7, [.int (-1), w27, w28])), (a19, .inr (7, [.int (-1), w29, w30])), (a20, .inr (7, [.int (-1), w31, w32]))]) (zrunV (As := []) (rest := []) ⟨hx, hb, hml, hown, ht⟩ (zc_X8_isNothing_0 l D y a15 w21 w22) (cwV 0 ht (zgV zm_1089 zm_1090 zm_1091 zm_39 zm_1092) rfl rfl rfl (by decide +kernel) ⟨(Nat.le_of_ble_eq_true rfl), (Nat.le_of_ble_eq_true rfl)⟩) hK hE hS hA hW [2] (by decide) rfl 0 rfl rfl rfl rfl hl.1 rfl (Nat.le_of_ble_eq_true rfl) dX9_shift_34 (Nat.le_of_ble_eq_true rfl) (Nat.le_of_ble_eq_true rfl)) hS hA hW [2] [0, 1, 3, 4, 5, 6, 7] rfl rfl (by decide) (by decide) (fun r25_ u H locs hw hW hS => ?_)
              have hW : zPD D A [(a0, .inr (8, [w6, w7, w8, w9, w10, w11, w12, w13, .ref a14])), (a14, .inl (y 5, 6, .inr (.inr (.inr (.inr (va_up (va_up (va_up (va_up (va_up (va_up (fun _ => none) 0 (some a15)) 1 (some a16)) 2 (some a17)) 3 (some a18)) 4 (some a19)) 5 (some a20))))))), (a16, .inr (7, [.int (-1), w23, w24])), (a17, .inr (7, [.int (-1), w25, w26])), (a18, .inr (7, [.int (-1), w27, w28])), (a19, .inr (7, [.int (-1), w29, w30])), (a20, .inr (7, [.int (-1), w31, w32])), (a15, .inr (7, [.int (-1), w21, w22]))] H := hW
              have hw : r25_ = 1 := hw
              subst hw
              refine lv_if_ne (tgt := 48) hx hb dX9_shift_37 (by decide) (fun c26_ => ?_) (fun c26_ => absurd c26_ (by decide))
              refine lv_bipush (v := (-11)) hx hb dX9_shift_48 (by decide) ?_
              exact zret_i (v := (-11)) hx hb hr hlocks hS () (by show _ = _; rw [if_neg c2_, if_neg c6_, if_neg c12_, if_neg c16_]) (hW.sub [] (by decide) rfl) (Nat.le_of_ble_eq_true rfl) (Nat.le_of_ble_eq_true rfl) dX9_shift_50
            · have b27_ : 1 ≤ Int32.toInt p3 ∧ Int32.toInt p3 ≤ 5 := (by have u0 := b19_; have u1 := (not_congr (zi_eq _ _)).mp c23_; have u2 : (0 : Int32).toInt = 0 := (by decide); omega)
              by_cases c28_ : p3 = 1
              · have b29_ : 1 ≤ Int32.toInt p3 ∧ Int32.toInt p3 ≤ 1 := (by have u0 := b27_; have u1 := (zi_eq _ _).mp c28_; have u2 : (1 : Int32).toInt = 1 := (by decide); omega)
                refine ztop (w := .int 1) (congrArg Value.int c28_) ?_
                refine zaald (v := .ref a16) hx hb hK hW 1 5 rfl rfl (by unfold vp_in; decide) rfl dX9_shift_29 ?_
                refine lv_astore (lv' := [(7, .ref a16), (6, .ref a15), (0, .ref a0), (1, .int p1), (2, .int p2), (3, .int p3), (4, .int p4), (5, .int p5)]) hx hb dX9_shift_30 hl (by decide) rfl (fun ls hl => ?_)
                refine lv_aload hx hb dX9_shift_32 (lv_at hl 1 rfl) ?_
                refine zgo_i (wr := [(a0, .inr (8, [w6, w7, w8, w9, w10, w11, w12, w13, .ref a14])), (a14, .inl (y 5, 6, .inr (.inr (.inr (.inr (va_up (va_up (va_up (va_up (va_up (va_up (fun _ => none) 0 (some a15)) 1 (some a16)) 2 (some a17)) 3 (some a18)) 4 (some a19)) 5 (some a20))))))), (a16, .inr (7, [.int (-1), w23, w24])), (a17, .inr (7, [.int (-1), w25, w26])), (a18, .inr (7, [.int (-1), w27, w28])), (a19, .inr (7, [.int (-1), w29, w30])), (a20, .inr (7, [.int (-1), w31, w32]))]) (zrunV (As := []) (rest := []) ⟨hx, hb, hml, hown, ht⟩ (zc_X8_isNothing_0 l D y a15 w21 w22) (cwV 0 ht (zgV zm_1089 zm_1090 zm_1091 zm_39 zm_1092) rfl rfl rfl (by decide +kernel) ⟨(Nat.le_of_ble_eq_true rfl), (Nat.le_of_ble_eq_true rfl)⟩) hK hE hS hA hW [2] (by decide) rfl 0 rfl rfl rfl rfl hl.1 rfl (Nat.le_of_ble_eq_true rfl) dX9_shift_34 (Nat.le_of_ble_eq_true rfl) (Nat.le_of_ble_eq_true rfl)) hS hA hW [2] [0, 1, 3, 4, 5, 6, 7] rfl rfl (by decide) (by decide) (fun r30_ u H locs hw hW hS => ?_)
                have hW : zPD D A [(a0, .inr (8, [w6, w7, w8, w9, w10, w11, w12, w13, .ref a14])), (a14, .inl (y 5, 6, .inr (.inr (.inr (.inr (va_up (va_up (va_up (va_up (va_up (va_up (fun _ => none) 0 (some a15)) 1 (some a16)) 2 (some a17)) 3 (some a18)) 4 (some a19)) 5 (some a20))))))), (a16, .inr (7, [.int (-1), w23, w24])), (a17, .inr (7, [.int (-1), w25, w26])), (a18, .inr (7, [.int (-1), w27, w28])), (a19, .inr (7, [.int (-1), w29, w30])), (a20, .inr (7, [.int (-1), w31, w32])), (a15, .inr (7, [.int (-1), w21, w22]))] H := hW
                have hw : r30_ = 1 := hw
                subst hw
                refine lv_if_ne (tgt := 48) hx hb dX9_shift_37 (by decide) (fun c31_ => ?_) (fun c31_ => absurd c31_ (by decide))
                refine lv_bipush (v := (-11)) hx hb dX9_shift_48 (by decide) ?_
                exact zret_i (v := (-11)) hx hb hr hlocks hS () (by show _ = _; rw [if_neg c2_, if_neg c6_, if_neg c12_, if_neg c16_]) (hW.sub [] (by decide) rfl) (Nat.le_of_ble_eq_true rfl) (Nat.le_of_ble_eq_true rfl) dX9_shift_50
              · have b32_ : 2 ≤ Int32.toInt p3 ∧ Int32.toInt p3 ≤ 5 := (by have u0 := b27_; have u1 := (not_congr (zi_eq _ _)).mp c28_; have u2 : (1 : Int32).toInt = 1 := (by decide); omega)
                by_cases c33_ : p3 = 2
                · have b34_ : 2 ≤ Int32.toInt p3 ∧ Int32.toInt p3 ≤ 2 := (by have u0 := b32_; have u1 := (zi_eq _ _).mp c33_; have u2 : (2 : Int32).toInt = 2 := (by decide); omega)
                  refine ztop (w := .int 2) (congrArg Value.int c33_) ?_
                  refine zaald (v := .ref a17) hx hb hK hW 1 5 rfl rfl (by unfold vp_in; decide) rfl dX9_shift_29 ?_
                  refine lv_astore (lv' := [(7, .ref a17), (6, .ref a15), (0, .ref a0), (1, .int p1), (2, .int p2), (3, .int p3), (4, .int p4), (5, .int p5)]) hx hb dX9_shift_30 hl (by decide) rfl (fun ls hl => ?_)
                  refine lv_aload hx hb dX9_shift_32 (lv_at hl 1 rfl) ?_
                  refine zgo_i (wr := [(a0, .inr (8, [w6, w7, w8, w9, w10, w11, w12, w13, .ref a14])), (a14, .inl (y 5, 6, .inr (.inr (.inr (.inr (va_up (va_up (va_up (va_up (va_up (va_up (fun _ => none) 0 (some a15)) 1 (some a16)) 2 (some a17)) 3 (some a18)) 4 (some a19)) 5 (some a20))))))), (a16, .inr (7, [.int (-1), w23, w24])), (a17, .inr (7, [.int (-1), w25, w26])), (a18, .inr (7, [.int (-1), w27, w28])), (a19, .inr (7, [.int (-1), w29, w30])), (a20, .inr (7, [.int (-1), w31, w32]))]) (zrunV (As := []) (rest := []) ⟨hx, hb, hml, hown, ht⟩ (zc_X8_isNothing_0 l D y a15 w21 w22) (cwV 0 ht (zgV zm_1089 zm_1090 zm_1091 zm_39 zm_1092) rfl rfl rfl (by decide +kernel) ⟨(Nat.le_of_ble_eq_true rfl), (Nat.le_of_ble_eq_true rfl)⟩) hK hE hS hA hW [2] (by decide) rfl 0 rfl rfl rfl rfl hl.1 rfl (Nat.le_of_ble_eq_true rfl) dX9_shift_34 (Nat.le_of_ble_eq_true rfl) (Nat.le_of_ble_eq_true rfl)) hS hA hW [2] [0, 1, 3, 4, 5, 6, 7] rfl rfl (by decide) (by decide) (fun r35_ u H locs hw hW hS => ?_)
                  have hW : zPD D A [(a0, .inr (8, [w6, w7, w8, w9, w10, w11, w12, w13, .ref a14])), (a14, .inl (y 5, 6, .inr (.inr (.inr (.inr (va_up (va_up (va_up (va_up (va_up (va_up (fun _ => none) 0 (some a15)) 1 (some a16)) 2 (some a17)) 3 (some a18)) 4 (some a19)) 5 (some a20))))))), (a16, .inr (7, [.int (-1), w23, w24])), (a17, .inr (7, [.int (-1), w25, w26])), (a18, .inr (7, [.int (-1), w27, w28])), (a19, .inr (7, [.int (-1), w29, w30])), (a20, .inr (7, [.int (-1), w31, w32])), (a15, .inr (7, [.int (-1), w21, w22]))] H := hW
                  have hw : r35_ = 1 := hw
                  subst hw
                  refine lv_if_ne (tgt := 48) hx hb dX9_shift_37 (by decide) (fun c36_ => ?_) (fun c36_ => absurd c36_ (by decide))
                  refine lv_bipush (v := (-11)) hx hb dX9_shift_48 (by decide) ?_
                  exact zret_i (v := (-11)) hx hb hr hlocks hS () (by show _ = _; rw [if_neg c2_, if_neg c6_, if_neg c12_, if_neg c16_]) (hW.sub [] (by decide) rfl) (Nat.le_of_ble_eq_true rfl) (Nat.le_of_ble_eq_true rfl) dX9_shift_50
                · have b37_ : 3 ≤ Int32.toInt p3 ∧ Int32.toInt p3 ≤ 5 := (by have u0 := b32_; have u1 := (not_congr (zi_eq _ _)).mp c33_; have u2 : (2 : Int32).toInt = 2 := (by decide); omega)
                  by_cases c38_ : p3 = 3
                  · have b39_ : 3 ≤ Int32.toInt p3 ∧ Int32.toInt p3 ≤ 3 := (by have u0 := b37_; have u1 := (zi_eq _ _).mp c38_; have u2 : (3 : Int32).toInt = 3 := (by decide); omega)
                    refine ztop (w := .int 3) (congrArg Value.int c38_) ?_
                    refine zaald (v := .ref a18) hx hb hK hW 1 5 rfl rfl (by unfold vp_in; decide) rfl dX9_shift_29 ?_
                    refine lv_astore (lv' := [(7, .ref a18), (6, .ref a15), (0, .ref a0), (1, .int p1), (2, .int p2), (3, .int p3), (4, .int p4), (5, .int p5)]) hx hb dX9_shift_30 hl (by decide) rfl (fun ls hl => ?_)
                    refine lv_aload hx hb dX9_shift_32 (lv_at hl 1 rfl) ?_
                    refine zgo_i (wr := [(a0, .inr (8, [w6, w7, w8, w9, w10, w11, w12, w13, .ref a14])), (a14, .inl (y 5, 6, .inr (.inr (.inr (.inr (va_up (va_up (va_up (va_up (va_up (va_up (fun _ => none) 0 (some a15)) 1 (some a16)) 2 (some a17)) 3 (some a18)) 4 (some a19)) 5 (some a20))))))), (a16, .inr (7, [.int (-1), w23, w24])), (a17, .inr (7, [.int (-1), w25, w26])), (a18, .inr (7, [.int (-1), w27, w28])), (a19, .inr (7, [.int (-1), w29, w30])), (a20, .inr (7, [.int (-1), w31, w32]))]) (zrunV (As := []) (rest := []) ⟨hx, hb, hml, hown, ht⟩ (zc_X8_isNothing_0 l D y a15 w21 w22) (cwV 0 ht (zgV zm_1089 zm_1090 zm_1091 zm_39 zm_1092) rfl rfl rfl (by decide +kernel) ⟨(Nat.le_of_ble_eq_true rfl), (Nat.le_of_ble_eq_true rfl)⟩) hK hE hS hA hW [2] (by decide) rfl 0 rfl rfl rfl rfl hl.1 rfl (Nat.le_of_ble_eq_true rfl) dX9_shift_34 (Nat.le_of_ble_eq_true rfl) (Nat.le_of_ble_eq_true rfl)) hS hA hW [2] [0, 1, 3, 4, 5, 6, 7] rfl rfl (by decide) (by decide) (fun r40_ u H locs hw hW hS => ?_)
                    have hW : zPD D A [(a0, .inr (8, [w6, w7, w8, w9, w10, w11, w12, w13, .ref a14])), (a14, .inl (y 5, 6, .inr (.inr (.inr (.inr (va_up (va_up (va_up (va_up (va_up (va_up (fun _ => none) 0 (some a15)) 1 (some a16)) 2 (some a17)) 3 (some a18)) 4 (some a19)) 5 (some a20))))))), (a16, .inr (7, [.int (-1), w23, w24])), (a17, .inr (7, [.int (-1), w25, w26])), (a18, .inr (7, [.int (-1), w27, w28])), (a19, .inr (7, [.int (-1), w29, w30])), (a20, .inr (7, [.int (-1), w31, w32])), (a15, .inr (7, [.int (-1), w21, w22]))] H := hW
                    have hw : r40_ = 1 := hw
                    subst hw
                    refine lv_if_ne (tgt := 48) hx hb dX9_shift_37 (by decide) (fun c41_ => ?_) (fun c41_ => absurd c41_ (by decide))
                    refine lv_bipush (v := (-11)) hx hb dX9_shift_48 (by decide) ?_
                    exact zret_i (v := (-11)) hx hb hr hlocks hS () (by show _ = _; rw [if_neg c2_, if_neg c6_, if_neg c12_, if_neg c16_]) (hW.sub [] (by decide) rfl) (Nat.le_of_ble_eq_true rfl) (Nat.le_of_ble_eq_true rfl) dX9_shift_50
                  · have b42_ : 4 ≤ Int32.toInt p3 ∧ Int32.toInt p3 ≤ 5 := (by have u0 := b37_; have u1 := (not_congr (zi_eq _ _)).mp c38_; have u2 : (3 : Int32).toInt = 3 := (by decide); omega)
                    by_cases c43_ : p3 = 4
                    · have b44_ : 4 ≤ Int32.toInt p3 ∧ Int32.toInt p3 ≤ 4 := (by have u0 := b42_; have u1 := (zi_eq _ _).mp c43_; have u2 : (4 : Int32).toInt = 4 := (by decide); omega)
                      refine ztop (w := .int 4) (congrArg Value.int c43_) ?_
                      refine zaald (v := .ref a19) hx hb hK hW 1 5 rfl rfl (by unfold vp_in; decide) rfl dX9_shift_29 ?_
                      refine lv_astore (lv' := [(7, .ref a19), (6, .ref a15), (0, .ref a0), (1, .int p1), (2, .int p2), (3, .int p3), (4, .int p4), (5, .int p5)]) hx hb dX9_shift_30 hl (by decide) rfl (fun ls hl => ?_)
                      refine lv_aload hx hb dX9_shift_32 (lv_at hl 1 rfl) ?_
                      refine zgo_i (wr := [(a0, .inr (8, [w6, w7, w8, w9, w10, w11, w12, w13, .ref a14])), (a14, .inl (y 5, 6, .inr (.inr (.inr (.inr (va_up (va_up (va_up (va_up (va_up (va_up (fun _ => none) 0 (some a15)) 1 (some a16)) 2 (some a17)) 3 (some a18)) 4 (some a19)) 5 (some a20))))))), (a16, .inr (7, [.int (-1), w23, w24])), (a17, .inr (7, [.int (-1), w25, w26])), (a18, .inr (7, [.int (-1), w27, w28])), (a19, .inr (7, [.int (-1), w29, w30])), (a20, .inr (7, [.int (-1), w31, w32]))]) (zrunV (As := []) (rest := []) ⟨hx, hb, hml, hown, ht⟩ (zc_X8_isNothing_0 l D y a15 w21 w22) (cwV 0 ht (zgV zm_1089 zm_1090 zm_1091 zm_39 zm_1092) rfl rfl rfl (by decide +kernel) ⟨(Nat.le_of_ble_eq_true rfl), (Nat.le_of_ble_eq_true rfl)⟩) hK hE hS hA hW [2] (by decide) rfl 0 rfl rfl rfl rfl hl.1 rfl (Nat.le_of_ble_eq_true rfl) dX9_shift_34 (Nat.le_of_ble_eq_true rfl) (Nat.le_of_ble_eq_true rfl)) hS hA hW [2] [0, 1, 3, 4, 5, 6, 7] rfl rfl (by decide) (by decide) (fun r45_ u H locs hw hW hS => ?_)
                      have hW : zPD D A [(a0, .inr (8, [w6, w7, w8, w9, w10, w11, w12, w13, .ref a14])), (a14, .inl (y 5, 6, .inr (.inr (.inr (.inr (va_up (va_up (va_up (va_up (va_up (va_up (fun _ => none) 0 (some a15)) 1 (some a16)) 2 (some a17)) 3 (some a18)) 4 (some a19)) 5 (some a20))))))), (a16, .inr (7, [.int (-1), w23, w24])), (a17, .inr (7, [.int (-1), w25, w26])), (a18, .inr (7, [.int (-1), w27, w28])), (a19, .inr (7, [.int (-1), w29, w30])), (a20, .inr (7, [.int (-1), w31, w32])), (a15, .inr (7, [.int (-1), w21, w22]))] H := hW
                      have hw : r45_ = 1 := hw
                      subst hw
                      refine lv_if_ne (tgt := 48) hx hb dX9_shift_37 (by decide) (fun c46_ => ?_) (fun c46_ => absurd c46_ (by decide))
                      refine lv_bipush (v := (-11)) hx hb dX9_shift_48 (by decide) ?_
                      exact zret_i (v := (-11)) hx hb hr hlocks hS () (by show _ = _; rw [if_neg c2_, if_neg c6_, if_neg c12_, if_neg c16_]) (hW.sub [] (by decide) rfl) (Nat.le_of_ble_eq_true rfl) (Nat.le_of_ble_eq_true rfl) dX9_shift_50
                    · have b47_ : 5 ≤ Int32.toInt p3 ∧ Int32.toInt p3 ≤ 5 := (by have u0 := b42_; have u1 := (not_congr (zi_eq _ _)).mp c43_; have u2 : (4 : Int32).toInt = 4 := (by decide); omega)
                      refine ztop (w := .int 5) (congrArg Value.int ((zi_eq _ _).mpr (by have u0 := b47_; have u1 : (5 : Int32).toInt = 5 := (by decide); omega))) ?_
                      refine zaald (v := .ref a20) hx hb hK hW 1 5 rfl rfl (by unfold vp_in; decide) rfl dX9_shift_29 ?_
                      refine lv_astore (lv' := [(7, .ref a20), (6, .ref a15), (0, .ref a0), (1, .int p1), (2, .int p2), (3, .int p3), (4, .int p4), (5, .int p5)]) hx hb dX9_shift_30 hl (by decide) rfl (fun ls hl => ?_)
                      refine lv_aload hx hb dX9_shift_32 (lv_at hl 1 rfl) ?_
                      refine zgo_i (wr := [(a0, .inr (8, [w6, w7, w8, w9, w10, w11, w12, w13, .ref a14])), (a14, .inl (y 5, 6, .inr (.inr (.inr (.inr (va_up (va_up (va_up (va_up (va_up (va_up (fun _ => none) 0 (some a15)) 1 (some a16)) 2 (some a17)) 3 (some a18)) 4 (some a19)) 5 (some a20))))))), (a16, .inr (7, [.int (-1), w23, w24])), (a17, .inr (7, [.int (-1), w25, w26])), (a18, .inr (7, [.int (-1), w27, w28])), (a19, .inr (7, [.int (-1), w29, w30])), (a20, .inr (7, [.int (-1), w31, w32]))]) (zrunV (As := []) (rest := []) ⟨hx, hb, hml, hown, ht⟩ (zc_X8_isNothing_0 l D y a15 w21 w22) (cwV 0 ht (zgV zm_1089 zm_1090 zm_1091 zm_39 zm_1092) rfl rfl rfl (by decide +kernel) ⟨(Nat.le_of_ble_eq_true rfl), (Nat.le_of_ble_eq_true rfl)⟩) hK hE hS hA hW [2] (by decide) rfl 0 rfl rfl rfl rfl hl.1 rfl (Nat.le_of_ble_eq_true rfl) dX9_shift_34 (Nat.le_of_ble_eq_true rfl) (Nat.le_of_ble_eq_true rfl)) hS hA hW [2] [0, 1, 3, 4, 5, 6, 7] rfl rfl (by decide) (by decide) (fun r48_ u H locs hw hW hS => ?_)
                      have hW : zPD D A [(a0, .inr (8, [w6, w7, w8, w9, w10, w11, w12, w13, .ref a14])), (a14, .inl (y 5, 6, .inr (.inr (.inr (.inr (va_up (va_up (va_up (va_up (va_up (va_up (fun _ => none) 0 (some a15)) 1 (some a16)) 2 (some a17)) 3 (some a18)) 4 (some a19)) 5 (some a20))))))), (a16, .inr (7, [.int (-1), w23, w24])), (a17, .inr (7, [.int (-1), w25, w26])), (a18, .inr (7, [.int (-1), w27, w28])), (a19, .inr (7, [.int (-1), w29, w30])), (a20, .inr (7, [.int (-1), w31, w32])), (a15, .inr (7, [.int (-1), w21, w22]))] H := hW
                      have hw : r48_ = 1 := hw
                      subst hw
                      refine lv_if_ne (tgt := 48) hx hb dX9_shift_37 (by decide) (fun c49_ => ?_) (fun c49_ => absurd c49_ (by decide))
                      refine lv_bipush (v := (-11)) hx hb dX9_shift_48 (by decide) ?_
                      exact zret_i (v := (-11)) hx hb hr hlocks hS () (by show _ = _; rw [if_neg c2_, if_neg c6_, if_neg c12_, if_neg c16_]) (hW.sub [] (by decide) rfl) (Nat.le_of_ble_eq_true rfl) (Nat.le_of_ble_eq_true rfl) dX9_shift_50
          · have b50_ : 1 ≤ Int32.toInt p1 ∧ Int32.toInt p1 ≤ 5 := (by have u0 := b9_; have u1 := (not_congr (zi_eq _ _)).mp c21_; have u2 : (0 : Int32).toInt = 0 := (by decide); omega)
            by_cases c51_ : p1 = 1
            · have b52_ : 1 ≤ Int32.toInt p1 ∧ Int32.toInt p1 ≤ 1 := (by have u0 := b50_; have u1 := (zi_eq _ _).mp c51_; have u2 : (1 : Int32).toInt = 1 := (by decide); omega)
              refine ztop (w := .int 1) (congrArg Value.int c51_) ?_
              refine zaald (v := .ref a16) hx hb hK hW 1 5 rfl rfl (by unfold vp_in; decide) rfl dX9_shift_21 ?_
              refine lv_astore (lv' := [(6, .ref a16), (0, .ref a0), (1, .int p1), (2, .int p2), (3, .int p3), (4, .int p4), (5, .int p5)]) hx hb dX9_shift_22 hl (by decide) rfl (fun ls hl => ?_)
              refine lv_aload_n hx hb dX9_shift_24 rfl (lv_at hl 1 rfl) ?_
              refine zget hx hb ht inlX9 hown hK hW 0 rfl rfl 8 (by decide) zm_35 rfl dX9_shift_25 ?_
              refine lv_iload_n hx hb dX9_shift_28 rfl (lv_at hl 4 rfl) ?_
              by_cases c53_ : p3 = 0
              · have b54_ : 0 ≤ Int32.toInt p3 ∧ Int32.toInt p3 ≤ 0 := (by have u0 := b19_; have u1 := (zi_eq _ _).mp c53_; have u2 : (0 : Int32).toInt = 0 := (by decide); omega)
                refine ztop (w := .int 0) (congrArg Value.int c53_) ?_
                refine zaald (v := .ref a15) hx hb hK hW 1 5 rfl rfl (by unfold vp_in; decide) rfl dX9_shift_29 ?_
                refine lv_astore (lv' := [(7, .ref a15), (6, .ref a16), (0, .ref a0), (1, .int p1), (2, .int p2), (3, .int p3), (4, .int p4), (5, .int p5)]) hx hb dX9_shift_30 hl (by decide) rfl (fun ls hl => ?_)
                refine lv_aload hx hb dX9_shift_32 (lv_at hl 1 rfl) ?_
                refine zgo_i (wr := [(a0, .inr (8, [w6, w7, w8, w9, w10, w11, w12, w13, .ref a14])), (a14, .inl (y 5, 6, .inr (.inr (.inr (.inr (va_up (va_up (va_up (va_up (va_up (va_up (fun _ => none) 0 (some a15)) 1 (some a16)) 2 (some a17)) 3 (some a18)) 4 (some a19)) 5 (some a20))))))), (a15, .inr (7, [.int (-1), w21, w22])), (a17, .inr (7, [.int (-1), w25, w26])), (a18, .inr (7, [.int (-1), w27, w28])), (a19, .inr (7, [.int (-1), w29, w30])), (a20, .inr (7, [.int (-1), w31, w32]))]) (zrunV (As := []) (rest := []) ⟨hx, hb, hml, hown, ht⟩ (zc_X8_isNothing_0 l D y a16 w23 w24) (cwV 0 ht (zgV zm_1089 zm_1090 zm_1091 zm_39 zm_1092) rfl rfl rfl (by decide +kernel) ⟨(Nat.le_of_ble_eq_true rfl), (Nat.le_of_ble_eq_true rfl)⟩) hK hE hS hA hW [3] (by decide) rfl 0 rfl rfl rfl rfl hl.1 rfl (Nat.le_of_ble_eq_true rfl) dX9_shift_34 (Nat.le_of_ble_eq_true rfl) (Nat.le_of_ble_eq_true rfl)) hS hA hW [3] [0, 1, 2, 4, 5, 6, 7] rfl rfl (by decide) (by decide) (fun r55_ u H locs hw hW hS => ?_)
                have hW : zPD D A [(a0, .inr (8, [w6, w7, w8, w9, w10, w11, w12, w13, .ref a14])), (a14, .inl (y 5, 6, .inr (.inr (.inr (.inr (va_up (va_up (va_up (va_up (va_up (va_up (fun _ => none) 0 (some a15)) 1 (some a16)) 2 (some a17)) 3 (some a18)) 4 (some a19)) 5 (some a20))))))), (a15, .inr (7, [.int (-1), w21, w22])), (a17, .inr (7, [.int (-1), w25, w26])), (a18, .inr (7, [.int (-1), w27, w28])), (a19, .inr (7, [.int (-1), w29, w30])), (a20, .inr (7, [.int (-1), w31, w32])), (a16, .inr (7, [.int (-1), w23, w24]))] H := hW
                have hw : r55_ = 1 := hw
                subst hw
                refine lv_if_ne (tgt := 48) hx hb dX9_shift_37 (by decide) (fun c56_ => ?_) (fun c56_ => absurd c56_ (by decide))
                refine lv_bipush (v := (-11)) hx hb dX9_shift_48 (by decide) ?_
                exact zret_i (v := (-11)) hx hb hr hlocks hS () (by show _ = _; rw [if_neg c2_, if_neg c6_, if_neg c12_, if_neg c16_]) (hW.sub [] (by decide) rfl) (Nat.le_of_ble_eq_true rfl) (Nat.le_of_ble_eq_true rfl) dX9_shift_50
              · have b57_ : 1 ≤ Int32.toInt p3 ∧ Int32.toInt p3 ≤ 5 := (by have u0 := b19_; have u1 := (not_congr (zi_eq _ _)).mp c53_; have u2 : (0 : Int32).toInt = 0 := (by decide); omega)
                by_cases c58_ : p3 = 1
                · have b59_ : 1 ≤ Int32.toInt p3 ∧ Int32.toInt p3 ≤ 1 := (by have u0 := b57_; have u1 := (zi_eq _ _).mp c58_; have u2 : (1 : Int32).toInt = 1 := (by decide); omega)
                  refine ztop (w := .int 1) (congrArg Value.int c58_) ?_
                  refine zaald (v := .ref a16) hx hb hK hW 1 5 rfl rfl (by unfold vp_in; decide) rfl dX9_shift_29 ?_
                  refine lv_astore (lv' := [(7, .ref a16), (6, .ref a16), (0, .ref a0), (1, .int p1), (2, .int p2), (3, .int p3), (4, .int p4), (5, .int p5)]) hx hb dX9_shift_30 hl (by decide) rfl (fun ls hl => ?_)
                  refine lv_aload hx hb dX9_shift_32 (lv_at hl 1 rfl) ?_
                  refine zgo_i (wr := [(a0, .inr (8, [w6, w7, w8, w9, w10, w11, w12, w13, .ref a14])), (a14, .inl (y 5, 6, .inr (.inr (.inr (.inr (va_up (va_up (va_up (va_up (va_up (va_up (fun _ => none) 0 (some a15)) 1 (some a16)) 2 (some a17)) 3 (some a18)) 4 (some a19)) 5 (some a20))))))), (a15, .inr (7, [.int (-1), w21, w22])), (a17, .inr (7, [.int (-1), w25, w26])), (a18, .inr (7, [.int (-1), w27, w28])), (a19, .inr (7, [.int (-1), w29, w30])), (a20, .inr (7, [.int (-1), w31, w32]))]) (zrunV (As := []) (rest := []) ⟨hx, hb, hml, hown, ht⟩ (zc_X8_isNothing_0 l D y a16 w23 w24) (cwV 0 ht (zgV zm_1089 zm_1090 zm_1091 zm_39 zm_1092) rfl rfl rfl (by decide +kernel) ⟨(Nat.le_of_ble_eq_true rfl), (Nat.le_of_ble_eq_true rfl)⟩) hK hE hS hA hW [3] (by decide) rfl 0 rfl rfl rfl rfl hl.1 rfl (Nat.le_of_ble_eq_true rfl) dX9_shift_34 (Nat.le_of_ble_eq_true rfl) (Nat.le_of_ble_eq_true rfl)) hS hA hW [3] [0, 1, 2, 4, 5, 6, 7] rfl rfl (by decide) (by decide) (fun r60_ u H locs hw hW hS => ?_)
                  have hW : zPD D A [(a0, .inr (8, [w6, w7, w8, w9, w10, w11, w12, w13, .ref a14])), (a14, .inl (y 5, 6, .inr (.inr (.inr (.inr (va_up (va_up (va_up (va_up (va_up (va_up (fun _ => none) 0 (some a15)) 1 (some a16)) 2 (some a17)) 3 (some a18)) 4 (some a19)) 5 (some a20))))))), (a15, .inr (7, [.int (-1), w21, w22])), (a17, .inr (7, [.int (-1), w25, w26])), (a18, .inr (7, [.int (-1), w27, w28])), (a19, .inr (7, [.int (-1), w29, w30])), (a20, .inr (7, [.int (-1), w31, w32])), (a16, .inr (7, [.int (-1), w23, w24]))] H := hW
                  have hw : r60_ = 1 := hw
                  subst hw
                  refine lv_if_ne (tgt := 48) hx hb dX9_shift_37 (by decide) (fun c61_ => ?_) (fun c61_ => absurd c61_ (by decide))
                  refine lv_bipush (v := (-11)) hx hb dX9_shift_48 (by decide) ?_
                  exact zret_i (v := (-11)) hx hb hr hlocks hS () (by show _ = _; rw [if_neg c2_, if_neg c6_, if_neg c12_, if_neg c16_]) (hW.sub [] (by decide) rfl) (Nat.le_of_ble_eq_true rfl) (Nat.le_of_ble_eq_true rfl) dX9_shift_50
                · have b62_ : 2 ≤ Int32.toInt p3 ∧ Int32.toInt p3 ≤ 5 := (by have u0 := b57_; have u1 := (not_congr (zi_eq _ _)).mp c58_; have u2 : (1 : Int32).toInt = 1 := (by decide); omega)
                  by_cases c63_ : p3 = 2
                  · have b64_ : 2 ≤ Int32.toInt p3 ∧ Int32.toInt p3 ≤ 2 := (by have u0 := b62_; have u1 := (zi_eq _ _).mp c63_; have u2 : (2 : Int32).toInt = 2 := (by decide); omega)
                    refine ztop (w := .int 2) (congrArg Value.int c63_) ?_
                    refine zaald (v := .ref a17) hx hb hK hW 1 5 rfl rfl (by unfold vp_in; decide) rfl dX9_shift_29 ?_
                    refine lv_astore (lv' := [(7, .ref a17), (6, .ref a16), (0, .ref a0), (1, .int p1), (2, .int p2), (3, .int p3), (4, .int p4), (5, .int p5)]) hx hb dX9_shift_30 hl (by decide) rfl (fun ls hl => ?_)
                    refine lv_aload hx hb dX9_shift_32 (lv_at hl 1 rfl) ?_
                    refine zgo_i (wr := [(a0, .inr (8, [w6, w7, w8, w9, w10, w11, w12, w13, .ref a14])), (a14, .inl (y 5, 6, .inr (.inr (.inr (.inr (va_up (va_up (va_up (va_up (va_up (va_up (fun _ => none) 0 (some a15)) 1 (some a16)) 2 (some a17)) 3 (some a18)) 4 (some a19)) 5 (some a20))))))), (a15, .inr (7, [.int (-1), w21, w22])), (a17, .inr (7, [.int (-1), w25, w26])), (a18, .inr (7, [.int (-1), w27, w28])), (a19, .inr (7, [.int (-1), w29, w30])), (a20, .inr (7, [.int (-1), w31, w32]))]) (zrunV (As := []) (rest := []) ⟨hx, hb, hml, hown, ht⟩ (zc_X8_isNothing_0 l D y a16 w23 w24) (cwV 0 ht (zgV zm_1089 zm_1090 zm_1091 zm_39 zm_1092) rfl rfl rfl (by decide +kernel) ⟨(Nat.le_of_ble_eq_true rfl), (Nat.le_of_ble_eq_true rfl)⟩) hK hE hS hA hW [3] (by decide) rfl 0 rfl rfl rfl rfl hl.1 rfl (Nat.le_of_ble_eq_true rfl) dX9_shift_34 (Nat.le_of_ble_eq_true rfl) (Nat.le_of_ble_eq_true rfl)) hS hA hW [3] [0, 1, 2, 4, 5, 6, 7] rfl rfl (by decide) (by decide) (fun r65_ u H locs hw hW hS => ?_)
                    have hW : zPD D A [(a0, .inr (8, [w6, w7, w8, w9, w10, w11, w12, w13, .ref a14])), (a14, .inl (y 5, 6, .inr (.inr (.inr (.inr (va_up (va_up (va_up (va_up (va_up (va_up (fun _ => none) 0 (some a15)) 1 (some a16)) 2 (some a17)) 3 (some a18)) 4 (some a19)) 5 (some a20))))))), (a15, .inr (7, [.int (-1), w21, w22])), (a17, .inr (7, [.int (-1), w25, w26])), (a18, .inr (7, [.int (-1), w27, w28])), (a19, .inr (7, [.int (-1), w29, w30])), (a20, .inr (7, [.int (-1), w31, w32])), (a16, .inr (7, [.int (-1), w23, w24]))] H := hW
                    have hw : r65_ = 1 := hw
                    subst hw
                    refine lv_if_ne (tgt := 48) hx hb dX9_shift_37 (by decide) (fun c66_ => ?_) (fun c66_ => absurd c66_ (by decide))
                    refine lv_bipush (v := (-11)) hx hb dX9_shift_48 (by decide) ?_
                    exact zret_i (v := (-11)) hx hb hr hlocks hS () (by show _ = _; rw [if_neg c2_, if_neg c6_, if_neg c12_, if_neg c16_]) (hW.sub [] (by decide) rfl) (Nat.le_of_ble_eq_true rfl) (Nat.le_of_ble_eq_true rfl) dX9_shift_50
                  · have b67_ : 3 ≤ Int32.toInt p3 ∧ Int32.toInt p3 ≤ 5 := (by have u0 := b62_; have u1 := (not_congr (zi_eq _ _)).mp c63_; have u2 : (2 : Int32).toInt = 2 := (by decide); omega)
                    by_cases c68_ : p3 = 3
                    · have b69_ : 3 ≤ Int32.toInt p3 ∧ Int32.toInt p3 ≤ 3 := (by have u0 := b67_; have u1 := (zi_eq _ _).mp c68_; have u2 : (3 : Int32).toInt = 3 := (by decide); omega)
                      refine ztop (w := .int 3) (congrArg Value.int c68_) ?_
                      refine zaald (v := .ref a18) hx hb hK hW 1 5 rfl rfl (by unfold vp_in; decide) rfl dX9_shift_29 ?_
                      refine lv_astore (lv' := [(7, .ref a18), (6, .ref a16), (0, .ref a0), (1, .int p1), (2, .int p2), (3, .int p3), (4, .int p4), (5, .int p5)]) hx hb dX9_shift_30 hl (by decide) rfl (fun ls hl => ?_)
                      refine lv_aload hx hb dX9_shift_32 (lv_at hl 1 rfl) ?_
                      refine zgo_i (wr := [(a0, .inr (8, [w6, w7, w8, w9, w10, w11, w12, w13, .ref a14])), (a14, .inl (y 5, 6, .inr (.inr (.inr (.inr (va_up (va_up (va_up (va_up (va_up (va_up (fun _ => none) 0 (some a15)) 1 (some a16)) 2 (some a17)) 3 (some a18)) 4 (some a19)) 5 (some a20))))))), (a15, .inr (7, [.int (-1), w21, w22])), (a17, .inr (7, [.int (-1), w25, w26])), (a18, .inr (7, [.int (-1), w27, w28])), (a19, .inr (7, [.int (-1), w29, w30])), (a20, .inr (7, [.int (-1), w31, w32]))]) (zrunV (As := []) (rest := []) ⟨hx, hb, hml, hown, ht⟩ (zc_X8_isNothing_0 l D y a16 w23 w24) (cwV 0 ht (zgV zm_1089 zm_1090 zm_1091 zm_39 zm_1092) rfl rfl rfl (by decide +kernel) ⟨(Nat.le_of_ble_eq_true rfl), (Nat.le_of_ble_eq_true rfl)⟩) hK hE hS hA hW [3] (by decide) rfl 0 rfl rfl rfl rfl hl.1 rfl (Nat.le_of_ble_eq_true rfl) dX9_shift_34 (Nat.le_of_ble_eq_true rfl) (Nat.le_of_ble_eq_true rfl)) hS hA hW [3] [0, 1, 2, 4, 5, 6, 7] rfl rfl (by decide) (by decide) (fun r70_ u H locs hw hW hS => ?_)
                      have hW : zPD D A [(a0, .inr (8, [w6, w7, w8, w9, w10, w11, w12, w13, .ref a14])), (a14, .inl (y 5, 6, .inr (.inr (.inr (.inr (va_up (va_up (va_up (va_up (va_up (va_up (fun _ => none) 0 (some a15)) 1 (some a16)) 2 (some a17)) 3 (some a18)) 4 (some a19)) 5 (some a20))))))), (a15, .inr (7, [.int (-1), w21, w22])), (a17, .inr (7, [.int (-1), w25, w26])), (a18, .inr (7, [.int (-1), w27, w28])), (a19, .inr (7, [.int (-1), w29, w30])), (a20, .inr (7, [.int (-1), w31, w32])), (a16, .inr (7, [.int (-1), w23, w24]))] H := hW
                      have hw : r70_ = 1 := hw
                      subst hw
                      refine lv_if_ne (tgt := 48) hx hb dX9_shift_37 (by decide) (fun c71_ => ?_) (fun c71_ => absurd c71_ (by decide))
                      refine lv_bipush (v := (-11)) hx hb dX9_shift_48 (by decide) ?_
                      exact zret_i (v := (-11)) hx hb hr hlocks hS () (by show _ = _; rw [if_neg c2_, if_neg c6_, if_neg c12_, if_neg c16_]) (hW.sub [] (by decide) rfl) (Nat.le_of_ble_eq_true rfl) (Nat.le_of_ble_eq_true rfl) dX9_shift_50
                    · have b72_ : 4 ≤ Int32.toInt p3 ∧ Int32.toInt p3 ≤ 5 := (by have u0 := b67_; have u1 := (not_congr (zi_eq _ _)).mp c68_; have u2 : (3 : Int32).toInt = 3 := (by decide); omega)
                      by_cases c73_ : p3 = 4
                      · have b74_ : 4 ≤ Int32.toInt p3 ∧ Int32.toInt p3 ≤ 4 := (by have u0 := b72_; have u1 := (zi_eq _ _).mp c73_; have u2 : (4 : Int32).toInt = 4 := (by decide); omega)
                        refine ztop (w := .int 4) (congrArg Value.int c73_) ?_
                        refine zaald (v := .ref a19) hx hb hK hW 1 5 rfl rfl (by unfold vp_in; decide) rfl dX9_shift_29 ?_
                        refine lv_astore (lv' := [(7, .ref a19), (6, .ref a16), (0, .ref a0), (1, .int p1), (2, .int p2), (3, .int p3), (4, .int p4), (5, .int p5)]) hx hb dX9_shift_30 hl (by decide) rfl (fun ls hl => ?_)
                        refine lv_aload hx hb dX9_shift_32 (lv_at hl 1 rfl) ?_
                        refine zgo_i (wr := [(a0, .inr (8, [w6, w7, w8, w9, w10, w11, w12, w13, .ref a14])), (a14, .inl (y 5, 6, .inr (.inr (.inr (.inr (va_up (va_up (va_up (va_up (va_up (va_up (fun _ => none) 0 (some a15)) 1 (some a16)) 2 (some a17)) 3 (some a18)) 4 (some a19)) 5 (some a20))))))), (a15, .inr (7, [.int (-1), w21, w22])), (a17, .inr (7, [.int (-1), w25, w26])), (a18, .inr (7, [.int (-1), w27, w28])), (a19, .inr (7, [.int (-1), w29, w30])), (a20, .inr (7, [.int (-1), w31, w32]))]) (zrunV (As := []) (rest := []) ⟨hx, hb, hml, hown, ht⟩ (zc_X8_isNothing_0 l D y a16 w23 w24) (cwV 0 ht (zgV zm_1089 zm_1090 zm_1091 zm_39 zm_1092) rfl rfl rfl (by decide +kernel) ⟨(Nat.le_of_ble_eq_true rfl), (Nat.le_of_ble_eq_true rfl)⟩) hK hE hS hA hW [3] (by decide) rfl 0 rfl rfl rfl rfl hl.1 rfl (Nat.le_of_ble_eq_true rfl) dX9_shift_34 (Nat.le_of_ble_eq_true rfl) (Nat.le_of_ble_eq_true rfl)) hS hA hW [3] [0, 1, 2, 4, 5, 6, 7] rfl rfl (by decide) (by decide) (fun r75_ u H locs hw hW hS => ?_)
                        have hW : zPD D A [(a0, .inr (8, [w6, w7, w8, w9, w10, w11, w12, w13, .ref a14])), (a14, .inl (y 5, 6, .inr (.inr (.inr (.inr (va_up (va_up (va_up (va_up (va_up (va_up (fun _ => none) 0 (some a15)) 1 (some a16)) 2 (some a17)) 3 (some a18)) 4 (some a19)) 5 (some a20))))))), (a15, .inr (7, [.int (-1), w21, w22])), (a17, .inr (7, [.int (-1), w25, w26])), (a18, .inr (7, [.int (-1), w27, w28])), (a19, .inr (7, [.int (-1), w29, w30])), (a20, .inr (7, [.int (-1), w31, w32])), (a16, .inr (7, [.int (-1), w23, w24]))] H := hW
                        have hw : r75_ = 1 := hw
                        subst hw
                        refine lv_if_ne (tgt := 48) hx hb dX9_shift_37 (by decide) (fun c76_ => ?_) (fun c76_ => absurd c76_ (by decide))
                        refine lv_bipush (v := (-11)) hx hb dX9_shift_48 (by decide) ?_
                        exact zret_i (v := (-11)) hx hb hr hlocks hS () (by show _ = _; rw [if_neg c2_, if_neg c6_, if_neg c12_, if_neg c16_]) (hW.sub [] (by decide) rfl) (Nat.le_of_ble_eq_true rfl) (Nat.le_of_ble_eq_true rfl) dX9_shift_50
                      · have b77_ : 5 ≤ Int32.toInt p3 ∧ Int32.toInt p3 ≤ 5 := (by have u0 := b72_; have u1 := (not_congr (zi_eq _ _)).mp c73_; have u2 : (4 : Int32).toInt = 4 := (by decide); omega)
                        refine ztop (w := .int 5) (congrArg Value.int ((zi_eq _ _).mpr (by have u0 := b77_; have u1 : (5 : Int32).toInt = 5 := (by decide); omega))) ?_
                        refine zaald (v := .ref a20) hx hb hK hW 1 5 rfl rfl (by unfold vp_in; decide) rfl dX9_shift_29 ?_
                        refine lv_astore (lv' := [(7, .ref a20), (6, .ref a16), (0, .ref a0), (1, .int p1), (2, .int p2), (3, .int p3), (4, .int p4), (5, .int p5)]) hx hb dX9_shift_30 hl (by decide) rfl (fun ls hl => ?_)
                        refine lv_aload hx hb dX9_shift_32 (lv_at hl 1 rfl) ?_
                        refine zgo_i (wr := [(a0, .inr (8, [w6, w7, w8, w9, w10, w11, w12, w13, .ref a14])), (a14, .inl (y 5, 6, .inr (.inr (.inr (.inr (va_up (va_up (va_up (va_up (va_up (va_up (fun _ => none) 0 (some a15)) 1 (some a16)) 2 (some a17)) 3 (some a18)) 4 (some a19)) 5 (some a20))))))), (a15, .inr (7, [.int (-1), w21, w22])), (a17, .inr (7, [.int (-1), w25, w26])), (a18, .inr (7, [.int (-1), w27, w28])), (a19, .inr (7, [.int (-1), w29, w30])), (a20, .inr (7, [.int (-1), w31, w32]))]) (zrunV (As := []) (rest := []) ⟨hx, hb, hml, hown, ht⟩ (zc_X8_isNothing_0 l D y a16 w23 w24) (cwV 0 ht (zgV zm_1089 zm_1090 zm_1091 zm_39 zm_1092) rfl rfl rfl (by decide +kernel) ⟨(Nat.le_of_ble_eq_true rfl), (Nat.le_of_ble_eq_true rfl)⟩) hK hE hS hA hW [3] (by decide) rfl 0 rfl rfl rfl rfl hl.1 rfl (Nat.le_of_ble_eq_true rfl) dX9_shift_34 (Nat.le_of_ble_eq_true rfl) (Nat.le_of_ble_eq_true rfl)) hS hA hW [3] [0, 1, 2, 4, 5, 6, 7] rfl rfl (by decide) (by decide) (fun r78_ u H locs hw hW hS => ?_)
                        have hW : zPD D A [(a0, .inr (8, [w6, w7, w8, w9, w10, w11, w12, w13, .ref a14])), (a14, .inl (y 5, 6, .inr (.inr (.inr (.inr (va_up (va_up (va_up (va_up (va_up (va_up (fun _ => none) 0 (some a15)) 1 (some a16)) 2 (some a17)) 3 (some a18)) 4 (some a19)) 5 (some a20))))))), (a15, .inr (7, [.int (-1), w21, w22])), (a17, .inr (7, [.int (-1), w25, w26])), (a18, .inr (7, [.int (-1), w27, w28])), (a19, .inr (7, [.int (-1), w29, w30])), (a20, .inr (7, [.int (-1), w31, w32])), (a16, .inr (7, [.int (-1), w23, w24]))] H := hW
                        have hw : r78_ = 1 := hw
                        subst hw
                        refine lv_if_ne (tgt := 48) hx hb dX9_shift_37 (by decide) (fun c79_ => ?_) (fun c79_ => absurd c79_ (by decide))
                        refine lv_bipush (v := (-11)) hx hb dX9_shift_48 (by decide) ?_
                        exact zret_i (v := (-11)) hx hb hr hlocks hS () (by show _ = _; rw [if_neg c2_, if_neg c6_, if_neg c12_, if_neg c16_]) (hW.sub [] (by decide) rfl) (Nat.le_of_ble_eq_true rfl) (Nat.le_of_ble_eq_true rfl) dX9_shift_50
            · have b80_ : 2 ≤ Int32.toInt p1 ∧ Int32.toInt p1 ≤ 5 := (by have u0 := b50_; have u1 := (not_congr (zi_eq _ _)).mp c51_; have u2 : (1 : Int32).toInt = 1 := (by decide); omega)
              by_cases c81_ : p1 = 2
              · have b82_ : 2 ≤ Int32.toInt p1 ∧ Int32.toInt p1 ≤ 2 := (by have u0 := b80_; have u1 := (zi_eq _ _).mp c81_; have u2 : (2 : Int32).toInt = 2 := (by decide); omega)
                refine ztop (w := .int 2) (congrArg Value.int c81_) ?_
                refine zaald (v := .ref a17) hx hb hK hW 1 5 rfl rfl (by unfold vp_in; decide) rfl dX9_shift_21 ?_
                refine lv_astore (lv' := [(6, .ref a17), (0, .ref a0), (1, .int p1), (2, .int p2), (3, .int p3), (4, .int p4), (5, .int p5)]) hx hb dX9_shift_22 hl (by decide) rfl (fun ls hl => ?_)
                refine lv_aload_n hx hb dX9_shift_24 rfl (lv_at hl 1 rfl) ?_
                refine zget hx hb ht inlX9 hown hK hW 0 rfl rfl 8 (by decide) zm_35 rfl dX9_shift_25 ?_
                refine lv_iload_n hx hb dX9_shift_28 rfl (lv_at hl 4 rfl) ?_
                by_cases c83_ : p3 = 0
                · have b84_ : 0 ≤ Int32.toInt p3 ∧ Int32.toInt p3 ≤ 0 := (by have u0 := b19_; have u1 := (zi_eq _ _).mp c83_; have u2 : (0 : Int32).toInt = 0 := (by decide); omega)
                  refine ztop (w := .int 0) (congrArg Value.int c83_) ?_
                  refine zaald (v := .ref a15) hx hb hK hW 1 5 rfl rfl (by unfold vp_in; decide) rfl dX9_shift_29 ?_
                  refine lv_astore (lv' := [(7, .ref a15), (6, .ref a17), (0, .ref a0), (1, .int p1), (2, .int p2), (3, .int p3), (4, .int p4), (5, .int p5)]) hx hb dX9_shift_30 hl (by decide) rfl (fun ls hl => ?_)
                  refine lv_aload hx hb dX9_shift_32 (lv_at hl 1 rfl) ?_
                  refine zgo_i (wr := [(a0, .inr (8, [w6, w7, w8, w9, w10, w11, w12, w13, .ref a14])), (a14, .inl (y 5, 6, .inr (.inr (.inr (.inr (va_up (va_up (va_up (va_up (va_up (va_up (fun _ => none) 0 (some a15)) 1 (some a16)) 2 (some a17)) 3 (some a18)) 4 (some a19)) 5 (some a20))))))), (a15, .inr (7, [.int (-1), w21, w22])), (a16, .inr (7, [.int (-1), w23, w24])), (a18, .inr (7, [.int (-1), w27, w28])), (a19, .inr (7, [.int (-1), w29, w30])), (a20, .inr (7, [.int (-1), w31, w32]))]) (zrunV (As := []) (rest := []) ⟨hx, hb, hml, hown, ht⟩ (zc_X8_isNothing_0 l D y a17 w25 w26) (cwV 0 ht (zgV zm_1089 zm_1090 zm_1091 zm_39 zm_1092) rfl rfl rfl (by decide +kernel) ⟨(Nat.le_of_ble_eq_true rfl), (Nat.le_of_ble_eq_true rfl)⟩) hK hE hS hA hW [4] (by decide) rfl 0 rfl rfl rfl rfl hl.1 rfl (Nat.le_of_ble_eq_true rfl) dX9_shift_34 (Nat.le_of_ble_eq_true rfl) (Nat.le_of_ble_eq_true rfl)) hS hA hW [4] [0, 1, 2, 3, 5, 6, 7] rfl rfl (by decide) (by decide) (fun r85_ u H locs hw hW hS => ?_)
                  have hW : zPD D A [(a0, .inr (8, [w6, w7, w8, w9, w10, w11, w12, w13, .ref a14])), (a14, .inl (y 5, 6, .inr (.inr (.inr (.inr (va_up (va_up (va_up (va_up (va_up (va_up (fun _ => none) 0 (some a15)) 1 (some a16)) 2 (some a17)) 3 (some a18)) 4 (some a19)) 5 (some a20))))))), (a15, .inr (7, [.int (-1), w21, w22])), (a16, .inr (7, [.int (-1), w23, w24])), (a18, .inr (7, [.int (-1), w27, w28])), (a19, .inr (7, [.int (-1), w29, w30])), (a20, .inr (7, [.int (-1), w31, w32])), (a17, .inr (7, [.int (-1), w25, w26]))] H := hW
                  have hw : r85_ = 1 := hw
                  subst hw
                  refine lv_if_ne (tgt := 48) hx hb dX9_shift_37 (by decide) (fun c86_ => ?_) (fun c86_ => absurd c86_ (by decide))
                  refine lv_bipush (v := (-11)) hx hb dX9_shift_48 (by decide) ?_
                  exact zret_i (v := (-11)) hx hb hr hlocks hS () (by show _ = _; rw [if_neg c2_, if_neg c6_, if_neg c12_, if_neg c16_]) (hW.sub [] (by decide) rfl) (Nat.le_of_ble_eq_true rfl) (Nat.le_of_ble_eq_true rfl) dX9_shift_50
                · have b87_ : 1 ≤ Int32.toInt p3 ∧ Int32.toInt p3 ≤ 5 := (by have u0 := b19_; have u1 := (not_congr (zi_eq _ _)).mp c83_; have u2 : (0 : Int32).toInt = 0 := (by decide); omega)
                  by_cases c88_ : p3 = 1
                  · have b89_ : 1 ≤ Int32.toInt p3 ∧ Int32.toInt p3 ≤ 1 := (by have u0 := b87_; have u1 := (zi_eq _ _).mp c88_; have u2 : (1 : Int32).toInt = 1 := (by decide); omega)
                    refine ztop (w := .int 1) (congrArg Value.int c88_) ?_
                    refine zaald (v := .ref a16) hx hb hK hW 1 5 rfl rfl (by unfold vp_in; decide) rfl dX9_shift_29 ?_
                    refine lv_astore (lv' := [(7, .ref a16), (6, .ref a17), (0, .ref a0), (1, .int p1), (2, .int p2), (3, .int p3), (4, .int p4), (5, .int p5)]) hx hb dX9_shift_30 hl (by decide) rfl (fun ls hl => ?_)
                    refine lv_aload hx hb dX9_shift_32 (lv_at hl 1 rfl) ?_
                    refine zgo_i (wr := [(a0, .inr (8, [w6, w7, w8, w9, w10, w11, w12, w13, .ref a14])), (a14, .inl (y 5, 6, .inr (.inr (.inr (.inr (va_up (va_up (va_up (va_up (va_up (va_up (fun _ => none) 0 (some a15)) 1 (some a16)) 2 (some a17)) 3 (some a18)) 4 (some a19)) 5 (some a20))))))), (a15, .inr (7, [.int (-1), w21, w22])), (a16, .inr (7, [.int (-1), w23, w24])), (a18, .inr (7, [.int (-1), w27, w28])), (a19, .inr (7, [.int (-1), w29, w30])), (a20, .inr (7, [.int (-1), w31, w32]))]) (zrunV (As := []) (rest := []) ⟨hx, hb, hml, hown, ht⟩ (zc_X8_isNothing_0 l D y a17 w25 w26) (cwV 0 ht (zgV zm_1089 zm_1090 zm_1091 zm_39 zm_1092) rfl rfl rfl (by decide +kernel) ⟨(Nat.le_of_ble_eq_true rfl), (Nat.le_of_ble_eq_true rfl)⟩) hK hE hS hA hW [4] (by decide) rfl 0 rfl rfl rfl rfl hl.1 rfl (Nat.le_of_ble_eq_true rfl) dX9_shift_34 (Nat.le_of_ble_eq_true rfl) (Nat.le_of_ble_eq_true rfl)) hS hA hW [4] [0, 1, 2, 3, 5, 6, 7] rfl rfl (by decide) (by decide) (fun r90_ u H locs hw hW hS => ?_)
                    have hW : zPD D A [(a0, .inr (8, [w6, w7, w8, w9, w10, w11, w12, w13, .ref a14])), (a14, .inl (y 5, 6, .inr (.inr (.inr (.inr (va_up (va_up (va_up (va_up (va_up (va_up (fun _ => none) 0 (some a15)) 1 (some a16)) 2 (some a17)) 3 (some a18)) 4 (some a19)) 5 (some a20))))))), (a15, .inr (7, [.int (-1), w21, w22])), (a16, .inr (7, [.int (-1), w23, w24])), (a18, .inr (7, [.int (-1), w27, w28])), (a19, .inr (7, [.int (-1), w29, w30])), (a20, .inr (7, [.int (-1), w31, w32])), (a17, .inr (7, [.int (-1), w25, w26]))] H := hW
                    have hw : r90_ = 1 := hw
                    subst hw
                    refine lv_if_ne (tgt := 48) hx hb dX9_shift_37 (by decide) (fun c91_ => ?_) (fun c91_ => absurd c91_ (by decide))
                    refine lv_bipush (v := (-11)) hx hb dX9_shift_48 (by decide) ?_
                    exact zret_i (v := (-11)) hx hb hr hlocks hS () (by show _ = _; rw [if_neg c2_, if_neg c6_, if_neg c12_, if_neg c16_]) (hW.sub [] (by decide) rfl) (Nat.le_of_ble_eq_true rfl) (Nat.le_of_ble_eq_true rfl) dX9_shift_50
                  · have b92_ : 2 ≤ Int32.toInt p3 ∧ Int32.toInt p3 ≤ 5 := (by have u0 := b87_; have u1 := (not_congr (zi_eq _ _)).mp c88_; have u2 : (1 : Int32).toInt = 1 := (by decide); omega)
                    by_cases c93_ : p3 = 2
                    · have b94_ : 2 ≤ Int32.toInt p3 ∧ Int32.toInt p3 ≤ 2 := (by have u0 := b92_; have u1 := (zi_eq _ _).mp c93_; have u2 : (2 : Int32).toInt = 2 := (by decide); omega)
                      refine ztop (w := .int 2) (congrArg Value.int c93_) ?_
                      refine zaald (v := .ref a17) hx hb hK hW 1 5 rfl rfl (by unfold vp_in; decide) rfl dX9_shift_29 ?_
                      refine lv_astore (lv' := [(7, .ref a17), (6, .ref a17), (0, .ref a0), (1, .int p1), (2, .int p2), (3, .int p3), (4, .int p4), (5, .int p5)]) hx hb dX9_shift_30 hl (by decide) rfl (fun ls hl => ?_)
                      refine lv_aload hx hb dX9_shift_32 (lv_at hl 1 rfl) ?_
                      refine zgo_i (wr := [(a0, .inr (8, [w6, w7, w8, w9, w10, w11, w12, w13, .ref a14])), (a14, .inl (y 5, 6, .inr (.inr (.inr (.inr (va_up (va_up (va_up (va_up (va_up (va_up (fun _ => none) 0 (some a15)) 1 (some a16)) 2 (some a17)) 3 (some a18)) 4 (some a19)) 5 (some a20))))))), (a15, .inr (7, [.int (-1), w21, w22])), (a16, .inr (7, [.int (-1), w23, w24])), (a18, .inr (7, [.int (-1), w27, w28])), (a19, .inr (7, [.int (-1), w29, w30])), (a20, .inr (7, [.int (-1), w31, w32]))]) (zrunV (As := []) (rest := []) ⟨hx, hb, hml, hown, ht⟩ (zc_X8_isNothing_0 l D y a17 w25 w26) (cwV 0 ht (zgV zm_1089 zm_1090 zm_1091 zm_39 zm_1092) rfl rfl rfl (by decide +kernel) ⟨(Nat.le_of_ble_eq_true rfl), (Nat.le_of_ble_eq_true rfl)⟩) hK hE hS hA hW [4] (by decide) rfl 0 rfl rfl rfl rfl hl.1 rfl (Nat.le_of_ble_eq_true rfl) dX9_shift_34 (Nat.le_of_ble_eq_true rfl) (Nat.le_of_ble_eq_true rfl)) hS hA hW [4] [0, 1, 2, 3, 5, 6, 7] rfl rfl (by decide) (by decide) (fun r95_ u H locs hw hW hS => ?_)
                      have hW : zPD D A [(a0, .inr (8, [w6, w7, w8, w9, w10, w11, w12, w13, .ref a14])), (a14, .inl (y 5, 6, .inr (.inr (.inr (.inr (va_up (va_up (va_up (va_up (va_up (va_up (fun _ => none) 0 (some a15)) 1 (some a16)) 2 (some a17)) 3 (some a18)) 4 (some a19)) 5 (some a20))))))), (a15, .inr (7, [.int (-1), w21, w22])), (a16, .inr (7, [.int (-1), w23, w24])), (a18, .inr (7, [.int (-1), w27, w28])), (a19, .inr (7, [.int (-1), w29, w30])), (a20, .inr (7, [.int (-1), w31, w32])), (a17, .inr (7, [.int (-1), w25, w26]))] H := hW
                      have hw : r95_ = 1 := hw
                      subst hw
                      refine lv_if_ne (tgt := 48) hx hb dX9_shift_37 (by decide) (fun c96_ => ?_) (fun c96_ => absurd c96_ (by decide))
                      refine lv_bipush (v := (-11)) hx hb dX9_shift_48 (by decide) ?_
                      exact zret_i (v := (-11)) hx hb hr hlocks hS () (by show _ = _; rw [if_neg c2_, if_neg c6_, if_neg c12_, if_neg c16_]) (hW.sub [] (by decide) rfl) (Nat.le_of_ble_eq_true rfl) (Nat.le_of_ble_eq_true rfl) dX9_shift_50
                    · have b97_ : 3 ≤ Int32.toInt p3 ∧ Int32.toInt p3 ≤ 5 := (by have u0 := b92_; have u1 := (not_congr (zi_eq _ _)).mp c93_; have u2 : (2 : Int32).toInt = 2 := (by decide); omega)
                      by_cases c98_ : p3 = 3
                      · have b99_ : 3 ≤ Int32.toInt p3 ∧ Int32.toInt p3 ≤ 3 := (by have u0 := b97_; have u1 := (zi_eq _ _).mp c98_; have u2 : (3 : Int32).toInt = 3 := (by decide); omega)
                        refine ztop (w := .int 3) (congrArg Value.int c98_) ?_
                        refine zaald (v := .ref a18) hx hb hK hW 1 5 rfl rfl (by unfold vp_in; decide) rfl dX9_shift_29 ?_
                        refine lv_astore (lv' := [(7, .ref a18), (6, .ref a17), (0, .ref a0), (1, .int p1), (2, .int p2), (3, .int p3), (4, .int p4), (5, .int p5)]) hx hb dX9_shift_30 hl (by decide) rfl (fun ls hl => ?_)
                        refine lv_aload hx hb dX9_shift_32 (lv_at hl 1 rfl) ?_
                        refine zgo_i (wr := [(a0, .inr (8, [w6, w7, w8, w9, w10, w11, w12, w13, .ref a14])), (a14, .inl (y 5, 6, .inr (.inr (.inr (.inr (va_up (va_up (va_up (va_up (va_up (va_up (fun _ => none) 0 (some a15)) 1 (some a16)) 2 (some a17)) 3 (some a18)) 4 (some a19)) 5 (some a20))))))), (a15, .inr (7, [.int (-1), w21, w22])), (a16, .inr (7, [.int (-1), w23, w24])), (a18, .inr (7, [.int (-1), w27, w28])), (a19, .inr (7, [.int (-1), w29, w30])), (a20, .inr (7, [.int (-1), w31, w32]))]) (zrunV (As := []) (rest := []) ⟨hx, hb, hml, hown, ht⟩ (zc_X8_isNothing_0 l D y a17 w25 w26) (cwV 0 ht (zgV zm_1089 zm_1090 zm_1091 zm_39 zm_1092) rfl rfl rfl (by decide +kernel) ⟨(Nat.le_of_ble_eq_true rfl), (Nat.le_of_ble_eq_true rfl)⟩) hK hE hS hA hW [4] (by decide) rfl 0 rfl rfl rfl rfl hl.1 rfl (Nat.le_of_ble_eq_true rfl) dX9_shift_34 (Nat.le_of_ble_eq_true rfl) (Nat.le_of_ble_eq_true rfl)) hS hA hW [4] [0, 1, 2, 3, 5, 6, 7] rfl rfl (by decide) (by decide) (fun r100_ u H locs hw hW hS => ?_)
                        have hW : zPD D A [(a0, .inr (8, [w6, w7, w8, w9, w10, w11, w12, w13, .ref a14])), (a14, .inl (y 5, 6, .inr (.inr (.inr (.inr (va_up (va_up (va_up (va_up (va_up (va_up (fun _ => none) 0 (some a15)) 1 (some a16)) 2 (some a17)) 3 (some a18)) 4 (some a19)) 5 (some a20))))))), (a15, .inr (7, [.int (-1), w21, w22])), (a16, .inr (7, [.int (-1), w23, w24])), (a18, .inr (7, [.int (-1), w27, w28])), (a19, .inr (7, [.int (-1), w29, w30])), (a20, .inr (7, [.int (-1), w31, w32])), (a17, .inr (7, [.int (-1), w25, w26]))] H := hW
                        have hw : r100_ = 1 := hw
                        subst hw
                        refine lv_if_ne (tgt := 48) hx hb dX9_shift_37 (by decide) (fun c101_ => ?_) (fun c101_ => absurd c101_ (by decide))
                        refine lv_bipush (v := (-11)) hx hb dX9_shift_48 (by decide) ?_
                        exact zret_i (v := (-11)) hx hb hr hlocks hS () (by show _ = _; rw [if_neg c2_, if_neg c6_, if_neg c12_, if_neg c16_]) (hW.sub [] (by decide) rfl) (Nat.le_of_ble_eq_true rfl) (Nat.le_of_ble_eq_true rfl) dX9_shift_50
                      · have b102_ : 4 ≤ Int32.toInt p3 ∧ Int32.toInt p3 ≤ 5 := (by have u0 := b97_; have u1 := (not_congr (zi_eq _ _)).mp c98_; have u2 : (3 : Int32).toInt = 3 := (by decide); omega)
                        by_cases c103_ : p3 = 4
                        · have b104_ : 4 ≤ Int32.toInt p3 ∧ Int32.toInt p3 ≤ 4 := (by have u0 := b102_; have u1 := (zi_eq _ _).mp c103_; have u2 : (4 : Int32).toInt = 4 := (by decide); omega)
                          refine ztop (w := .int 4) (congrArg Value.int c103_) ?_
                          refine zaald (v := .ref a19) hx hb hK hW 1 5 rfl rfl (by unfold vp_in; decide) rfl dX9_shift_29 ?_
                          refine lv_astore (lv' := [(7, .ref a19), (6, .ref a17), (0, .ref a0), (1, .int p1), (2, .int p2), (3, .int p3), (4, .int p4), (5, .int p5)]) hx hb dX9_shift_30 hl (by decide) rfl (fun ls hl => ?_)
                          refine lv_aload hx hb dX9_shift_32 (lv_at hl 1 rfl) ?_
                          refine zgo_i (wr := [(a0, .inr (8, [w6, w7, w8, w9, w10, w11, w12, w13, .ref a14])), (a14, .inl (y 5, 6, .inr (.inr (.inr (.inr (va_up (va_up (va_up (va_up (va_up (va_up (fun _ => none) 0 (some a15)) 1 (some a16)) 2 (some a17)) 3 (some a18)) 4 (some a19)) 5 (some a20))))))), (a15, .inr (7, [.int (-1), w21, w22])), (a16, .inr (7, [.int (-1), w23, w24])), (a18, .inr (7, [.int (-1), w27, w28])), (a19, .inr (7, [.int (-1), w29, w30])), (a20, .inr (7, [.int (-1), w31, w32]))]) (zrunV (As := []) (rest := []) ⟨hx, hb, hml, hown, ht⟩ (zc_X8_isNothing_0 l D y a17 w25 w26) (cwV 0 ht (zgV zm_1089 zm_1090 zm_1091 zm_39 zm_1092) rfl rfl rfl (by decide +kernel) ⟨(Nat.le_of_ble_eq_true rfl), (Nat.le_of_ble_eq_true rfl)⟩) hK hE hS hA hW [4] (by decide) rfl 0 rfl rfl rfl rfl hl.1 rfl (Nat.le_of_ble_eq_true rfl) dX9_shift_34 (Nat.le_of_ble_eq_true rfl) (Nat.le_of_ble_eq_true rfl)) hS hA hW [4] [0, 1, 2, 3, 5, 6, 7] rfl rfl (by decide) (by decide) (fun r105_ u H locs hw hW hS => ?_)
                          have hW : zPD D A [(a0, .inr (8, [w6, w7, w8, w9, w10, w11, w12, w13, .ref a14])), (a14, .inl (y 5, 6, .inr (.inr (.inr (.inr (va_up (va_up (va_up (va_up (va_up (va_up (fun _ => none) 0 (some a15)) 1 (some a16)) 2 (some a17)) 3 (some a18)) 4 (some a19)) 5 (some a20))))))), (a15, .inr (7, [.int (-1), w21, w22])), (a16, .inr (7, [.int (-1), w23, w24])), (a18, .inr (7, [.int (-1), w27, w28])), (a19, .inr (7, [.int (-1), w29, w30])), (a20, .inr (7, [.int (-1), w31, w32])), (a17, .inr (7, [.int (-1), w25, w26]))] H := hW
                          have hw : r105_ = 1 := hw
                          subst hw
                          refine lv_if_ne (tgt := 48) hx hb dX9_shift_37 (by decide) (fun c106_ => ?_) (fun c106_ => absurd c106_ (by decide))
                          refine lv_bipush (v := (-11)) hx hb dX9_shift_48 (by decide) ?_
                          exact zret_i (v := (-11)) hx hb hr hlocks hS () (by show _ = _; rw [if_neg c2_, if_neg c6_, if_neg c12_, if_neg c16_]) (hW.sub [] (by decide) rfl) (Nat.le_of_ble_eq_true rfl) (Nat.le_of_ble_eq_true rfl) dX9_shift_50
                        · have b107_ : 5 ≤ Int32.toInt p3 ∧ Int32.toInt p3 ≤ 5 := (by have u0 := b102_; have u1 := (not_congr (zi_eq _ _)).mp c103_; have u2 : (4 : Int32).toInt = 4 := (by decide); omega)
                          refine ztop (w := .int 5) (congrArg Value.int ((zi_eq _ _).mpr (by have u0 := b107_; have u1 : (5 : Int32).toInt = 5 := (by decide); omega))) ?_
                          refine zaald (v := .ref a20) hx hb hK hW 1 5 rfl rfl (by unfold vp_in; decide) rfl dX9_shift_29 ?_
                          refine lv_astore (lv' := [(7, .ref a20), (6, .ref a17), (0, .ref a0), (1, .int p1), (2, .int p2), (3, .int p3), (4, .int p4), (5, .int p5)]) hx hb dX9_shift_30 hl (by decide) rfl (fun ls hl => ?_)
                          refine lv_aload hx hb dX9_shift_32 (lv_at hl 1 rfl) ?_
                          refine zgo_i (wr := [(a0, .inr (8, [w6, w7, w8, w9, w10, w11, w12, w13, .ref a14])), (a14, .inl (y 5, 6, .inr (.inr (.inr (.inr (va_up (va_up (va_up (va_up (va_up (va_up (fun _ => none) 0 (some a15)) 1 (some a16)) 2 (some a17)) 3 (some a18)) 4 (some a19)) 5 (some a20))))))), (a15, .inr (7, [.int (-1), w21, w22])), (a16, .inr (7, [.int (-1), w23, w24])), (a18, .inr (7, [.int (-1), w27, w28])), (a19, .inr (7, [.int (-1), w29, w30])), (a20, .inr (7, [.int (-1), w31, w32]))]) (zrunV (As := []) (rest := []) ⟨hx, hb, hml, hown, ht⟩ (zc_X8_isNothing_0 l D y a17 w25 w26) (cwV 0 ht (zgV zm_1089 zm_1090 zm_1091 zm_39 zm_1092) rfl rfl rfl (by decide +kernel) ⟨(Nat.le_of_ble_eq_true rfl), (Nat.le_of_ble_eq_true rfl)⟩) hK hE hS hA hW [4] (by decide) rfl 0 rfl rfl rfl rfl hl.1 rfl (Nat.le_of_ble_eq_true rfl) dX9_shift_34 (Nat.le_of_ble_eq_true rfl) (Nat.le_of_ble_eq_true rfl)) hS hA hW [4] [0, 1, 2, 3, 5, 6, 7] rfl rfl (by decide) (by decide) (fun r108_ u H locs hw hW hS => ?_)
                          have hW : zPD D A [(a0, .inr (8, [w6, w7, w8, w9, w10, w11, w12, w13, .ref a14])), (a14, .inl (y 5, 6, .inr (.inr (.inr (.inr (va_up (va_up (va_up (va_up (va_up (va_up (fun _ => none) 0 (some a15)) 1 (some a16)) 2 (some a17)) 3 (some a18)) 4 (some a19)) 5 (some a20))))))), (a15, .inr (7, [.int (-1), w21, w22])), (a16, .inr (7, [.int (-1), w23, w24])), (a18, .inr (7, [.int (-1), w27, w28])), (a19, .inr (7, [.int (-1), w29, w30])), (a20, .inr (7, [.int (-1), w31, w32])), (a17, .inr (7, [.int (-1), w25, w26]))] H := hW
                          have hw : r108_ = 1 := hw
                          subst hw
                          refine lv_if_ne (tgt := 48) hx hb dX9_shift_37 (by decide) (fun c109_ => ?_) (fun c109_ => absurd c109_ (by decide))
                          refine lv_bipush (v := (-11)) hx hb dX9_shift_48 (by decide) ?_
                          exact zret_i (v := (-11)) hx hb hr hlocks hS () (by show _ = _; rw [if_neg c2_, if_neg c6_, if_neg c12_, if_neg c16_]) (hW.sub [] (by decide) rfl) (Nat.le_of_ble_eq_true rfl) (Nat.le_of_ble_eq_true rfl) dX9_shift_50
              · have b110_ : 3 ≤ Int32.toInt p1 ∧ Int32.toInt p1 ≤ 5 := (by have u0 := b80_; have u1 := (not_congr (zi_eq _ _)).mp c81_; have u2 : (2 : Int32).toInt = 2 := (by decide); omega)
                by_cases c111_ : p1 = 3
                · have b112_ : 3 ≤ Int32.toInt p1 ∧ Int32.toInt p1 ≤ 3 := (by have u0 := b110_; have u1 := (zi_eq _ _).mp c111_; have u2 : (3 : Int32).toInt = 3 := (by decide); omega)
                  refine ztop (w := .int 3) (congrArg Value.int c111_) ?_
                  refine zaald (v := .ref a18) hx hb hK hW 1 5 rfl rfl (by unfold vp_in; decide) rfl dX9_shift_21 ?_
                  refine lv_astore (lv' := [(6, .ref a18), (0, .ref a0), (1, .int p1), (2, .int p2), (3, .int p3), (4, .int p4), (5, .int p5)]) hx hb dX9_shift_22 hl (by decide) rfl (fun ls hl => ?_)
                  refine lv_aload_n hx hb dX9_shift_24 rfl (lv_at hl 1 rfl) ?_
                  refine zget hx hb ht inlX9 hown hK hW 0 rfl rfl 8 (by decide) zm_35 rfl dX9_shift_25 ?_
                  refine lv_iload_n hx hb dX9_shift_28 rfl (lv_at hl 4 rfl) ?_
                  by_cases c113_ : p3 = 0
                  · have b114_ : 0 ≤ Int32.toInt p3 ∧ Int32.toInt p3 ≤ 0 := (by have u0 := b19_; have u1 := (zi_eq _ _).mp c113_; have u2 : (0 : Int32).toInt = 0 := (by decide); omega)
                    refine ztop (w := .int 0) (congrArg Value.int c113_) ?_
                    refine zaald (v := .ref a15) hx hb hK hW 1 5 rfl rfl (by unfold vp_in; decide) rfl dX9_shift_29 ?_
                    refine lv_astore (lv' := [(7, .ref a15), (6, .ref a18), (0, .ref a0), (1, .int p1), (2, .int p2), (3, .int p3), (4, .int p4), (5, .int p5)]) hx hb dX9_shift_30 hl (by decide) rfl (fun ls hl => ?_)
                    refine lv_aload hx hb dX9_shift_32 (lv_at hl 1 rfl) ?_
                    refine zgo_i (wr := [(a0, .inr (8, [w6, w7, w8, w9, w10, w11, w12, w13, .ref a14])), (a14, .inl (y 5, 6, .inr (.inr (.inr (.inr (va_up (va_up (va_up (va_up (va_up (va_up (fun _ => none) 0 (some a15)) 1 (some a16)) 2 (some a17)) 3 (some a18)) 4 (some a19)) 5 (some a20))))))), (a15, .inr (7, [.int (-1), w21, w22])), (a16, .inr (7, [.int (-1), w23, w24])), (a17, .inr (7, [.int (-1), w25, w26])), (a19, .inr (7, [.int (-1), w29, w30])), (a20, .inr (7, [.int (-1), w31, w32]))]) (zrunV (As := []) (rest := []) ⟨hx, hb, hml, hown, ht⟩ (zc_X8_isNothing_0 l D y a18 w27 w28) (cwV 0 ht (zgV zm_1089 zm_1090 zm_1091 zm_39 zm_1092) rfl rfl rfl (by decide +kernel) ⟨(Nat.le_of_ble_eq_true rfl), (Nat.le_of_ble_eq_true rfl)⟩) hK hE hS hA hW [5] (by decide) rfl 0 rfl rfl rfl rfl hl.1 rfl (Nat.le_of_ble_eq_true rfl) dX9_shift_34 (Nat.le_of_ble_eq_true rfl) (Nat.le_of_ble_eq_true rfl)) hS hA hW [5] [0, 1, 2, 3, 4, 6, 7] rfl rfl (by decide) (by decide) (fun r115_ u H locs hw hW hS => ?_)
                    have hW : zPD D A [(a0, .inr (8, [w6, w7, w8, w9, w10, w11, w12, w13, .ref a14])), (a14, .inl (y 5, 6, .inr (.inr (.inr (.inr (va_up (va_up (va_up (va_up (va_up (va_up (fun _ => none) 0 (some a15)) 1 (some a16)) 2 (some a17)) 3 (some a18)) 4 (some a19)) 5 (some a20))))))), (a15, .inr (7, [.int (-1), w21, w22])), (a16, .inr (7, [.int (-1), w23, w24])), (a17, .inr (7, [.int (-1), w25, w26])), (a19, .inr (7, [.int (-1), w29, w30])), (a20, .inr (7, [.int (-1), w31, w32])), (a18, .inr (7, [.int (-1), w27, w28]))] H := hW
                    have hw : r115_ = 1 := hw
                    subst hw
                    refine lv_if_ne (tgt := 48) hx hb dX9_shift_37 (by decide) (fun c116_ => ?_) (fun c116_ => absurd c116_ (by decide))
                    refine lv_bipush (v := (-11)) hx hb dX9_shift_48 (by decide) ?_
                    exact zret_i (v := (-11)) hx hb hr hlocks hS () (by show _ = _; rw [if_neg c2_, if_neg c6_, if_neg c12_, if_neg c16_]) (hW.sub [] (by decide) rfl) (Nat.le_of_ble_eq_true rfl) (Nat.le_of_ble_eq_true rfl) dX9_shift_50
                  · have b117_ : 1 ≤ Int32.toInt p3 ∧ Int32.toInt p3 ≤ 5 := (by have u0 := b19_; have u1 := (not_congr (zi_eq _ _)).mp c113_; have u2 : (0 : Int32).toInt = 0 := (by decide); omega)
                    by_cases c118_ : p3 = 1
                    · have b119_ : 1 ≤ Int32.toInt p3 ∧ Int32.toInt p3 ≤ 1 := (by have u0 := b117_; have u1 := (zi_eq _ _).mp c118_; have u2 : (1 : Int32).toInt = 1 := (by decide); omega)
                      refine ztop (w := .int 1) (congrArg Value.int c118_) ?_
                      refine zaald (v := .ref a16) hx hb hK hW 1 5 rfl rfl (by unfold vp_in; decide) rfl dX9_shift_29 ?_
                      refine lv_astore (lv' := [(7, .ref a16), (6, .ref a18), (0, .ref a0), (1, .int p1), (2, .int p2), (3, .int p3), (4, .int p4), (5, .int p5)]) hx hb dX9_shift_30 hl (by decide) rfl (fun ls hl => ?_)
                      refine lv_aload hx hb dX9_shift_32 (lv_at hl 1 rfl) ?_
                      refine zgo_i (wr := [(a0, .inr (8, [w6, w7, w8, w9, w10, w11, w12, w13, .ref a14])), (a14, .inl (y 5, 6, .inr (.inr (.inr (.inr (va_up (va_up (va_up (va_up (va_up (va_up (fun _ => none) 0 (some a15)) 1 (some a16)) 2 (some a17)) 3 (some a18)) 4 (some a19)) 5 (some a20))))))), (a15, .inr (7, [.int (-1), w21, w22])), (a16, .inr (7, [.int (-1), w23, w24])), (a17, .inr (7, [.int (-1), w25, w26])), (a19, .inr (7, [.int (-1), w29, w30])), (a20, .inr (7, [.int (-1), w31, w32]))]) (zrunV (As := []) (rest := []) ⟨hx, hb, hml, hown, ht⟩ (zc_X8_isNothing_0 l D y a18 w27 w28) (cwV 0 ht (zgV zm_1089 zm_1090 zm_1091 zm_39 zm_1092) rfl rfl rfl (by decide +kernel) ⟨(Nat.le_of_ble_eq_true rfl), (Nat.le_of_ble_eq_true rfl)⟩) hK hE hS hA hW [5] (by decide) rfl 0 rfl rfl rfl rfl hl.1 rfl (Nat.le_of_ble_eq_true rfl) dX9_shift_34 (Nat.le_of_ble_eq_true rfl) (Nat.le_of_ble_eq_true rfl)) hS hA hW [5] [0, 1, 2, 3, 4, 6, 7] rfl rfl (by decide) (by decide) (fun r120_ u H locs hw hW hS => ?_)
                      have hW : zPD D A [(a0, .inr (8, [w6, w7, w8, w9, w10, w11, w12, w13, .ref a14])), (a14, .inl (y 5, 6, .inr (.inr (.inr (.inr (va_up (va_up (va_up (va_up (va_up (va_up (fun _ => none) 0 (some a15)) 1 (some a16)) 2 (some a17)) 3 (some a18)) 4 (some a19)) 5 (some a20))))))), (a15, .inr (7, [.int (-1), w21, w22])), (a16, .inr (7, [.int (-1), w23, w24])), (a17, .inr (7, [.int (-1), w25, w26])), (a19, .inr (7, [.int (-1), w29, w30])), (a20, .inr (7, [.int (-1), w31, w32])), (a18, .inr (7, [.int (-1), w27, w28]))] H := hW
                      have hw : r120_ = 1 := hw
                      subst hw
                      refine lv_if_ne (tgt := 48) hx hb dX9_shift_37 (by decide) (fun c121_ => ?_) (fun c121_ => absurd c121_ (by decide))
                      refine lv_bipush (v := (-11)) hx hb dX9_shift_48 (by decide) ?_
                      exact zret_i (v := (-11)) hx hb hr hlocks hS () (by show _ = _; rw [if_neg c2_, if_neg c6_, if_neg c12_, if_neg c16_]) (hW.sub [] (by decide) rfl) (Nat.le_of_ble_eq_true rfl) (Nat.le_of_ble_eq_true rfl) dX9_shift_50
                    · have b122_ : 2 ≤ Int32.toInt p3 ∧ Int32.toInt p3 ≤ 5 := (by have u0 := b117_; have u1 := (not_congr (zi_eq _ _)).mp c118_; have u2 : (1 : Int32).toInt = 1 := (by decide); omega)
                      by_cases c123_ : p3 = 2
                      · have b124_ : 2 ≤ Int32.toInt p3 ∧ Int32.toInt p3 ≤ 2 := (by have u0 := b122_; have u1 := (zi_eq _ _).mp c123_; have u2 : (2 : Int32).toInt = 2 := (by decide); omega)
                        refine ztop (w := .int 2) (congrArg Value.int c123_) ?_
                        refine zaald (v := .ref a17) hx hb hK hW 1 5 rfl rfl (by unfold vp_in; decide) rfl dX9_shift_29 ?_
                        refine lv_astore (lv' := [(7, .ref a17), (6, .ref a18), (0, .ref a0), (1, .int p1), (2, .int p2), (3, .int p3), (4, .int p4), (5, .int p5)]) hx hb dX9_shift_30 hl (by decide) rfl (fun ls hl => ?_)
                        refine lv_aload hx hb dX9_shift_32 (lv_at hl 1 rfl) ?_
                        refine zgo_i (wr := [(a0, .inr (8, [w6, w7, w8, w9, w10, w11, w12, w13, .ref a14])), (a14, .inl (y 5, 6, .inr (.inr (.inr (.inr (va_up (va_up (va_up (va_up (va_up (va_up (fun _ => none) 0 (some a15)) 1 (some a16)) 2 (some a17)) 3 (some a18)) 4 (some a19)) 5 (some a20))))))), (a15, .inr (7, [.int (-1), w21, w22])), (a16, .inr (7, [.int (-1), w23, w24])), (a17, .inr (7, [.int (-1), w25, w26])), (a19, .inr (7, [.int (-1), w29, w30])), (a20, .inr (7, [.int (-1), w31, w32]))]) (zrunV (As := []) (rest := []) ⟨hx, hb, hml, hown, ht⟩ (zc_X8_isNothing_0 l D y a18 w27 w28) (cwV 0 ht (zgV zm_1089 zm_1090 zm_1091 zm_39 zm_1092) rfl rfl rfl (by decide +kernel) ⟨(Nat.le_of_ble_eq_true rfl), (Nat.le_of_ble_eq_true rfl)⟩) hK hE hS hA hW [5] (by decide) rfl 0 rfl rfl rfl rfl hl.1 rfl (Nat.le_of_ble_eq_true rfl) dX9_shift_34 (Nat.le_of_ble_eq_true rfl) (Nat.le_of_ble_eq_true rfl)) hS hA hW [5] [0, 1, 2, 3, 4, 6, 7] rfl rfl (by decide) (by decide) (fun r125_ u H locs hw hW hS => ?_)
                        have hW : zPD D A [(a0, .inr (8, [w6, w7, w8, w9, w10, w11, w12, w13, .ref a14])), (a14, .inl (y 5, 6, .inr (.inr (.inr (.inr (va_up (va_up (va_up (va_up (va_up (va_up (fun _ => none) 0 (some a15)) 1 (some a16)) 2 (some a17)) 3 (some a18)) 4 (some a19)) 5 (some a20))))))), (a15, .inr (7, [.int (-1), w21, w22])), (a16, .inr (7, [.int (-1), w23, w24])), (a17, .inr (7, [.int (-1), w25, w26])), (a19, .inr (7, [.int (-1), w29, w30])), (a20, .inr (7, [.int (-1), w31, w32])), (a18, .inr (7, [.int (-1), w27, w28]))] H := hW
                        have hw : r125_ = 1 := hw
                        subst hw
                        refine lv_if_ne (tgt := 48) hx hb dX9_shift_37 (by decide) (fun c126_ => ?_) (fun c126_ => absurd c126_ (by decide))
                        refine lv_bipush (v := (-11)) hx hb dX9_shift_48 (by decide) ?_
                        exact zret_i (v := (-11)) hx hb hr hlocks hS () (by show _ = _; rw [if_neg c2_, if_neg c6_, if_neg c12_, if_neg c16_]) (hW.sub [] (by decide) rfl) (Nat.le_of_ble_eq_true rfl) (Nat.le_of_ble_eq_true rfl) dX9_shift_50
                      · have b127_ : 3 ≤ Int32.toInt p3 ∧ Int32.toInt p3 ≤ 5 := (by have u0 := b122_; have u1 := (not_congr (zi_eq _ _)).mp c123_; have u2 : (2 : Int32).toInt = 2 := (by decide); omega)
                        by_cases c128_ : p3 = 3
                        · have b129_ : 3 ≤ Int32.toInt p3 ∧ Int32.toInt p3 ≤ 3 := (by have u0 := b127_; have u1 := (zi_eq _ _).mp c128_; have u2 : (3 : Int32).toInt = 3 := (by decide); omega)
                          refine ztop (w := .int 3) (congrArg Value.int c128_) ?_
                          refine zaald (v := .ref a18) hx hb hK hW 1 5 rfl rfl (by unfold vp_in; decide) rfl dX9_shift_29 ?_
                          refine lv_astore (lv' := [(7, .ref a18), (6, .ref a18), (0, .ref a0), (1, .int p1), (2, .int p2), (3, .int p3), (4, .int p4), (5, .int p5)]) hx hb dX9_shift_30 hl (by decide) rfl (fun ls hl => ?_)
                          refine lv_aload hx hb dX9_shift_32 (lv_at hl 1 rfl) ?_
                          refine zgo_i (wr := [(a0, .inr (8, [w6, w7, w8, w9, w10, w11, w12, w13, .ref a14])), (a14, .inl (y 5, 6, .inr (.inr (.inr (.inr (va_up (va_up (va_up (va_up (va_up (va_up (fun _ => none) 0 (some a15)) 1 (some a16)) 2 (some a17)) 3 (some a18)) 4 (some a19)) 5 (some a20))))))), (a15, .inr (7, [.int (-1), w21, w22])), (a16, .inr (7, [.int (-1), w23, w24])), (a17, .inr (7, [.int (-1), w25, w26])), (a19, .inr (7, [.int (-1), w29, w30])), (a20, .inr (7, [.int (-1), w31, w32]))]) (zrunV (As := []) (rest := []) ⟨hx, hb, hml, hown, ht⟩ (zc_X8_isNothing_0 l D y a18 w27 w28) (cwV 0 ht (zgV zm_1089 zm_1090 zm_1091 zm_39 zm_1092) rfl rfl rfl (by decide +kernel) ⟨(Nat.le_of_ble_eq_true rfl), (Nat.le_of_ble_eq_true rfl)⟩) hK hE hS hA hW [5] (by decide) rfl 0 rfl rfl rfl rfl hl.1 rfl (Nat.le_of_ble_eq_true rfl) dX9_shift_34 (Nat.le_of_ble_eq_true rfl) (Nat.le_of_ble_eq_true rfl)) hS hA hW [5] [0, 1, 2, 3, 4, 6, 7] rfl rfl (by decide) (by decide) (fun r130_ u H locs hw hW hS => ?_)
                          have hW : zPD D A [(a0, .inr (8, [w6, w7, w8, w9, w10, w11, w12, w13, .ref a14])), (a14, .inl (y 5, 6, .inr (.inr (.inr (.inr (va_up (va_up (va_up (va_up (va_up (va_up (fun _ => none) 0 (some a15)) 1 (some a16)) 2 (some a17)) 3 (some a18)) 4 (some a19)) 5 (some a20))))))), (a15, .inr (7, [.int (-1), w21, w22])), (a16, .inr (7, [.int (-1), w23, w24])), (a17, .inr (7, [.int (-1), w25, w26])), (a19, .inr (7, [.int (-1), w29, w30])), (a20, .inr (7, [.int (-1), w31, w32])), (a18, .inr (7, [.int (-1), w27, w28]))] H := hW
                          have hw : r130_ = 1 := hw
                          subst hw
                          refine lv_if_ne (tgt := 48) hx hb dX9_shift_37 (by decide) (fun c131_ => ?_) (fun c131_ => absurd c131_ (by decide))
                          refine lv_bipush (v := (-11)) hx hb dX9_shift_48 (by decide) ?_
                          exact zret_i (v := (-11)) hx hb hr hlocks hS () (by show _ = _; rw [if_neg c2_, if_neg c6_, if_neg c12_, if_neg c16_]) (hW.sub [] (by decide) rfl) (Nat.le_of_ble_eq_true rfl) (Nat.le_of_ble_eq_true rfl) dX9_shift_50
                        · have b132_ : 4 ≤ Int32.toInt p3 ∧ Int32.toInt p3 ≤ 5 := (by have u0 := b127_; have u1 := (not_congr (zi_eq _ _)).mp c128_; have u2 : (3 : Int32).toInt = 3 := (by decide); omega)
                          by_cases c133_ : p3 = 4
                          · have b134_ : 4 ≤ Int32.toInt p3 ∧ Int32.toInt p3 ≤ 4 := (by have u0 := b132_; have u1 := (zi_eq _ _).mp c133_; have u2 : (4 : Int32).toInt = 4 := (by decide); omega)
                            refine ztop (w := .int 4) (congrArg Value.int c133_) ?_
                            refine zaald (v := .ref a19) hx hb hK hW 1 5 rfl rfl (by unfold vp_in; decide) rfl dX9_shift_29 ?_
                            refine lv_astore (lv' := [(7, .ref a19), (6, .ref a18), (0, .ref a0), (1, .int p1), (2, .int p2), (3, .int p3), (4, .int p4), (5, .int p5)]) hx hb dX9_shift_30 hl (by decide) rfl (fun ls hl => ?_)
                            refine lv_aload hx hb dX9_shift_32 (lv_at hl 1 rfl) ?_
                            refine zgo_i (wr := [(a0, .inr (8, [w6, w7, w8, w9, w10, w11, w12, w13, .ref a14])), (a14, .inl (y 5, 6, .inr (.inr (.inr (.inr (va_up (va_up (va_up (va_up (va_up (va_up (fun _ => none) 0 (some a15)) 1 (some a16)) 2 (some a17)) 3 (some a18)) 4 (some a19)) 5 (some a20))))))), (a15, .inr (7, [.int (-1), w21, w22])), (a16, .inr (7, [.int (-1), w23, w24])), (a17, .inr (7, [.int (-1), w25, w26])), (a19, .inr (7, [.int (-1), w29, w30])), (a20, .inr (7, [.int (-1), w31, w32]))]) (zrunV (As := []) (rest := []) ⟨hx, hb, hml, hown, ht⟩ (zc_X8_isNothing_0 l D y a18 w27 w28) (cwV 0 ht (zgV zm_1089 zm_1090 zm_1091 zm_39 zm_1092) rfl rfl rfl (by decide +kernel) ⟨(Nat.le_of_ble_eq_true rfl), (Nat.le_of_ble_eq_true rfl)⟩) hK hE hS hA hW [5] (by decide) rfl 0 rfl rfl rfl rfl hl.1 rfl (Nat.le_of_ble_eq_true rfl) dX9_shift_34 (Nat.le_of_ble_eq_true rfl) (Nat.le_of_ble_eq_true rfl)) hS hA hW [5] [0, 1, 2, 3, 4, 6, 7] rfl rfl (by decide) (by decide) (fun r135_ u H locs hw hW hS => ?_)
                            have hW : zPD D A [(a0, .inr (8, [w6, w7, w8, w9, w10, w11, w12, w13, .ref a14])), (a14, .inl (y 5, 6, .inr (.inr (.inr (.inr (va_up (va_up (va_up (va_up (va_up (va_up (fun _ => none) 0 (some a15)) 1 (some a16)) 2 (some a17)) 3 (some a18)) 4 (some a19)) 5 (some a20))))))), (a15, .inr (7, [.int (-1), w21, w22])), (a16, .inr (7, [.int (-1), w23, w24])), (a17, .inr (7, [.int (-1), w25, w26])), (a19, .inr (7, [.int (-1), w29, w30])), (a20, .inr (7, [.int (-1), w31, w32])), (a18, .inr (7, [.int (-1), w27, w28]))] H := hW
                            have hw : r135_ = 1 := hw
                            subst hw
                            refine lv_if_ne (tgt := 48) hx hb dX9_shift_37 (by decide) (fun c136_ => ?_) (fun c136_ => absurd c136_ (by decide))
                            refine lv_bipush (v := (-11)) hx hb dX9_shift_48 (by decide) ?_
                            exact zret_i (v := (-11)) hx hb hr hlocks hS () (by show _ = _; rw [if_neg c2_, if_neg c6_, if_neg c12_, if_neg c16_]) (hW.sub [] (by decide) rfl) (Nat.le_of_ble_eq_true rfl) (Nat.le_of_ble_eq_true rfl) dX9_shift_50
                          · have b137_ : 5 ≤ Int32.toInt p3 ∧ Int32.toInt p3 ≤ 5 := (by have u0 := b132_; have u1 := (not_congr (zi_eq _ _)).mp c133_; have u2 : (4 : Int32).toInt = 4 := (by decide); omega)
                            refine ztop (w := .int 5) (congrArg Value.int ((zi_eq _ _).mpr (by have u0 := b137_; have u1 : (5 : Int32).toInt = 5 := (by decide); omega))) ?_
                            refine zaald (v := .ref a20) hx hb hK hW 1 5 rfl rfl (by unfold vp_in; decide) rfl dX9_shift_29 ?_
                            refine lv_astore (lv' := [(7, .ref a20), (6, .ref a18), (0, .ref a0), (1, .int p1), (2, .int p2), (3, .int p3), (4, .int p4), (5, .int p5)]) hx hb dX9_shift_30 hl (by decide) rfl (fun ls hl => ?_)
                            refine lv_aload hx hb dX9_shift_32 (lv_at hl 1 rfl) ?_
                            refine zgo_i (wr := [(a0, .inr (8, [w6, w7, w8, w9, w10, w11, w12, w13, .ref a14])), (a14, .inl (y 5, 6, .inr (.inr (.inr (.inr (va_up (va_up (va_up (va_up (va_up (va_up (fun _ => none) 0 (some a15)) 1 (some a16)) 2 (some a17)) 3 (some a18)) 4 (some a19)) 5 (some a20))))))), (a15, .inr (7, [.int (-1), w21, w22])), (a16, .inr (7, [.int (-1), w23, w24])), (a17, .inr (7, [.int (-1), w25, w26])), (a19, .inr (7, [.int (-1), w29, w30])), (a20, .inr (7, [.int (-1), w31, w32]))]) (zrunV (As := []) (rest := []) ⟨hx, hb, hml, hown, ht⟩ (zc_X8_isNothing_0 l D y a18 w27 w28) (cwV 0 ht (zgV zm_1089 zm_1090 zm_1091 zm_39 zm_1092) rfl rfl rfl (by decide +kernel) ⟨(Nat.le_of_ble_eq_true rfl), (Nat.le_of_ble_eq_true rfl)⟩) hK hE hS hA hW [5] (by decide) rfl 0 rfl rfl rfl rfl hl.1 rfl (Nat.le_of_ble_eq_true rfl) dX9_shift_34 (Nat.le_of_ble_eq_true rfl) (Nat.le_of_ble_eq_true rfl)) hS hA hW [5] [0, 1, 2, 3, 4, 6, 7] rfl rfl (by decide) (by decide) (fun r138_ u H locs hw hW hS => ?_)
                            have hW : zPD D A [(a0, .inr (8, [w6, w7, w8, w9, w10, w11, w12, w13, .ref a14])), (a14, .inl (y 5, 6, .inr (.inr (.inr (.inr (va_up (va_up (va_up (va_up (va_up (va_up (fun _ => none) 0 (some a15)) 1 (some a16)) 2 (some a17)) 3 (some a18)) 4 (some a19)) 5 (some a20))))))), (a15, .inr (7, [.int (-1), w21, w22])), (a16, .inr (7, [.int (-1), w23, w24])), (a17, .inr (7, [.int (-1), w25, w26])), (a19, .inr (7, [.int (-1), w29, w30])), (a20, .inr (7, [.int (-1), w31, w32])), (a18, .inr (7, [.int (-1), w27, w28]))] H := hW
                            have hw : r138_ = 1 := hw
                            subst hw
                            refine lv_if_ne (tgt := 48) hx hb dX9_shift_37 (by decide) (fun c139_ => ?_) (fun c139_ => absurd c139_ (by decide))
                            refine lv_bipush (v := (-11)) hx hb dX9_shift_48 (by decide) ?_
                            exact zret_i (v := (-11)) hx hb hr hlocks hS () (by show _ = _; rw [if_neg c2_, if_neg c6_, if_neg c12_, if_neg c16_]) (hW.sub [] (by decide) rfl) (Nat.le_of_ble_eq_true rfl) (Nat.le_of_ble_eq_true rfl) dX9_shift_50
                · have b140_ : 4 ≤ Int32.toInt p1 ∧ Int32.toInt p1 ≤ 5 := (by have u0 := b110_; have u1 := (not_congr (zi_eq _ _)).mp c111_; have u2 : (3 : Int32).toInt = 3 := (by decide); omega)
                  by_cases c141_ : p1 = 4
                  · have b142_ : 4 ≤ Int32.toInt p1 ∧ Int32.toInt p1 ≤ 4 := (by have u0 := b140_; have u1 := (zi_eq _ _).mp c141_; have u2 : (4 : Int32).toInt = 4 := (by decide); omega)
                    refine ztop (w := .int 4) (congrArg Value.int c141_) ?_
                    refine zaald (v := .ref a19) hx hb hK hW 1 5 rfl rfl (by unfold vp_in; decide) rfl dX9_shift_21 ?_
                    refine lv_astore (lv' := [(6, .ref a19), (0, .ref a0), (1, .int p1), (2, .int p2), (3, .int p3), (4, .int p4), (5, .int p5)]) hx hb dX9_shift_22 hl (by decide) rfl (fun ls hl => ?_)
                    refine lv_aload_n hx hb dX9_shift_24 rfl (lv_at hl 1 rfl) ?_
                    refine zget hx hb ht inlX9 hown hK hW 0 rfl rfl 8 (by decide) zm_35 rfl dX9_shift_25 ?_
                    refine lv_iload_n hx hb dX9_shift_28 rfl (lv_at hl 4 rfl) ?_
                    by_cases c143_ : p3 = 0
                    · have b144_ : 0 ≤ Int32.toInt p3 ∧ Int32.toInt p3 ≤ 0 := (by have u0 := b19_; have u1 := (zi_eq _ _).mp c143_; have u2 : (0 : Int32).toInt = 0 := (by decide); omega)
                      refine ztop (w := .int 0) (congrArg Value.int c143_) ?_
                      refine zaald (v := .ref a15) hx hb hK hW 1 5 rfl rfl (by unfold vp_in; decide) rfl dX9_shift_29 ?_
                      refine lv_astore (lv' := [(7, .ref a15), (6, .ref a19), (0, .ref a0), (1, .int p1), (2, .int p2), (3, .int p3), (4, .int p4), (5, .int p5)]) hx hb dX9_shift_30 hl (by decide) rfl (fun ls hl => ?_)
                      refine lv_aload hx hb dX9_shift_32 (lv_at hl 1 rfl) ?_
                      refine zgo_i (wr := [(a0, .inr (8, [w6, w7, w8, w9, w10, w11, w12, w13, .ref a14])), (a14, .inl (y 5, 6, .inr (.inr (.inr (.inr (va_up (va_up (va_up (va_up (va_up (va_up (fun _ => none) 0 (some a15)) 1 (some a16)) 2 (some a17)) 3 (some a18)) 4 (some a19)) 5 (some a20))))))), (a15, .inr (7, [.int (-1), w21, w22])), (a16, .inr (7, [.int (-1), w23, w24])), (a17, .inr (7, [.int (-1), w25, w26])), (a18, .inr (7, [.int (-1), w27, w28])), (a20, .inr (7, [.int (-1), w31, w32]))]) (zrunV (As := []) (rest := []) ⟨hx, hb, hml, hown, ht⟩ (zc_X8_isNothing_0 l D y a19 w29 w30) (cwV 0 ht (zgV zm_1089 zm_1090 zm_1091 zm_39 zm_1092) rfl rfl rfl (by decide +kernel) ⟨(Nat.le_of_ble_eq_true rfl), (Nat.le_of_ble_eq_true rfl)⟩) hK hE hS hA hW [6] (by decide) rfl 0 rfl rfl rfl rfl hl.1 rfl (Nat.le_of_ble_eq_true rfl) dX9_shift_34 (Nat.le_of_ble_eq_true rfl) (Nat.le_of_ble_eq_true rfl)) hS hA hW [6] [0, 1, 2, 3, 4, 5, 7] rfl rfl (by decide) (by decide) (fun r145_ u H locs hw hW hS => ?_)
                      have hW : zPD D A [(a0, .inr (8, [w6, w7, w8, w9, w10, w11, w12, w13, .ref a14])), (a14, .inl (y 5, 6, .inr (.inr (.inr (.inr (va_up (va_up (va_up (va_up (va_up (va_up (fun _ => none) 0 (some a15)) 1 (some a16)) 2 (some a17)) 3 (some a18)) 4 (some a19)) 5 (some a20))))))), (a15, .inr (7, [.int (-1), w21, w22])), (a16, .inr (7, [.int (-1), w23, w24])), (a17, .inr (7, [.int (-1), w25, w26])), (a18, .inr (7, [.int (-1), w27, w28])), (a20, .inr (7, [.int (-1), w31, w32])), (a19, .inr (7, [.int (-1), w29, w30]))] H := hW
                      have hw : r145_ = 1 := hw
                      subst hw
                      refine lv_if_ne (tgt := 48) hx hb dX9_shift_37 (by decide) (fun c146_ => ?_) (fun c146_ => absurd c146_ (by decide))
                      refine lv_bipush (v := (-11)) hx hb dX9_shift_48 (by decide) ?_
                      exact zret_i (v := (-11)) hx hb hr hlocks hS () (by show _ = _; rw [if_neg c2_, if_neg c6_, if_neg c12_, if_neg c16_]) (hW.sub [] (by decide) rfl) (Nat.le_of_ble_eq_true rfl) (Nat.le_of_ble_eq_true rfl) dX9_shift_50
                    · have b147_ : 1 ≤ Int32.toInt p3 ∧ Int32.toInt p3 ≤ 5 := (by have u0 := b19_; have u1 := (not_congr (zi_eq _ _)).mp c143_; have u2 : (0 : Int32).toInt = 0 := (by decide); omega)
                      by_cases c148_ : p3 = 1
                      · have b149_ : 1 ≤ Int32.toInt p3 ∧ Int32.toInt p3 ≤ 1 := (by have u0 := b147_; have u1 := (zi_eq _ _).mp c148_; have u2 : (1 : Int32).toInt = 1 := (by decide); omega)
                        refine ztop (w := .int 1) (congrArg Value.int c148_) ?_
                        refine zaald (v := .ref a16) hx hb hK hW 1 5 rfl rfl (by unfold vp_in; decide) rfl dX9_shift_29 ?_
                        refine lv_astore (lv' := [(7, .ref a16), (6, .ref a19), (0, .ref a0), (1, .int p1), (2, .int p2), (3, .int p3), (4, .int p4), (5, .int p5)]) hx hb dX9_shift_30 hl (by decide) rfl (fun ls hl => ?_)
                        refine lv_aload hx hb dX9_shift_32 (lv_at hl 1 rfl) ?_
                        refine zgo_i (wr := [(a0, .inr (8, [w6, w7, w8, w9, w10, w11, w12, w13, .ref a14])), (a14, .inl (y 5, 6, .inr (.inr (.inr (.inr (va_up (va_up (va_up (va_up (va_up (va_up (fun _ => none) 0 (some a15)) 1 (some a16)) 2 (some a17)) 3 (some a18)) 4 (some a19)) 5 (some a20))))))), (a15, .inr (7, [.int (-1), w21, w22])), (a16, .inr (7, [.int (-1), w23, w24])), (a17, .inr (7, [.int (-1), w25, w26])), (a18, .inr (7, [.int (-1), w27, w28])), (a20, .inr (7, [.int (-1), w31, w32]))]) (zrunV (As := []) (rest := []) ⟨hx, hb, hml, hown, ht⟩ (zc_X8_isNothing_0 l D y a19 w29 w30) (cwV 0 ht (zgV zm_1089 zm_1090 zm_1091 zm_39 zm_1092) rfl rfl rfl (by decide +kernel) ⟨(Nat.le_of_ble_eq_true rfl), (Nat.le_of_ble_eq_true rfl)⟩) hK hE hS hA hW [6] (by decide) rfl 0 rfl rfl rfl rfl hl.1 rfl (Nat.le_of_ble_eq_true rfl) dX9_shift_34 (Nat.le_of_ble_eq_true rfl) (Nat.le_of_ble_eq_true rfl)) hS hA hW [6] [0, 1, 2, 3, 4, 5, 7] rfl rfl (by decide) (by decide) (fun r150_ u H locs hw hW hS => ?_)
                        have hW : zPD D A [(a0, .inr (8, [w6, w7, w8, w9, w10, w11, w12, w13, .ref a14])), (a14, .inl (y 5, 6, .inr (.inr (.inr (.inr (va_up (va_up (va_up (va_up (va_up (va_up (fun _ => none) 0 (some a15)) 1 (some a16)) 2 (some a17)) 3 (some a18)) 4 (some a19)) 5 (some a20))))))), (a15, .inr (7, [.int (-1), w21, w22])), (a16, .inr (7, [.int (-1), w23, w24])), (a17, .inr (7, [.int (-1), w25, w26])), (a18, .inr (7, [.int (-1), w27, w28])), (a20, .inr (7, [.int (-1), w31, w32])), (a19, .inr (7, [.int (-1), w29, w30]))] H := hW
                        have hw : r150_ = 1 := hw
                        subst hw
                        refine lv_if_ne (tgt := 48) hx hb dX9_shift_37 (by decide) (fun c151_ => ?_) (fun c151_ => absurd c151_ (by decide))
                        refine lv_bipush (v := (-11)) hx hb dX9_shift_48 (by decide) ?_
                        exact zret_i (v := (-11)) hx hb hr hlocks hS () (by show _ = _; rw [if_neg c2_, if_neg c6_, if_neg c12_, if_neg c16_]) (hW.sub [] (by decide) rfl) (Nat.le_of_ble_eq_true rfl) (Nat.le_of_ble_eq_true rfl) dX9_shift_50
                      · have b152_ : 2 ≤ Int32.toInt p3 ∧ Int32.toInt p3 ≤ 5 := (by have u0 := b147_; have u1 := (not_congr (zi_eq _ _)).mp c148_; have u2 : (1 : Int32).toInt = 1 := (by decide); omega)
                        by_cases c153_ : p3 = 2
                        · have b154_ : 2 ≤ Int32.toInt p3 ∧ Int32.toInt p3 ≤ 2 := (by have u0 := b152_; have u1 := (zi_eq _ _).mp c153_; have u2 : (2 : Int32).toInt = 2 := (by decide); omega)
                          refine ztop (w := .int 2) (congrArg Value.int c153_) ?_
                          refine zaald (v := .ref a17) hx hb hK hW 1 5 rfl rfl (by unfold vp_in; decide) rfl dX9_shift_29 ?_
                          refine lv_astore (lv' := [(7, .ref a17), (6, .ref a19), (0, .ref a0), (1, .int p1), (2, .int p2), (3, .int p3), (4, .int p4), (5, .int p5)]) hx hb dX9_shift_30 hl (by decide) rfl (fun ls hl => ?_)
                          refine lv_aload hx hb dX9_shift_32 (lv_at hl 1 rfl) ?_
                          refine zgo_i (wr := [(a0, .inr (8, [w6, w7, w8, w9, w10, w11, w12, w13, .ref a14])), (a14, .inl (y 5, 6, .inr (.inr (.inr (.inr (va_up (va_up (va_up (va_up (va_up (va_up (fun _ => none) 0 (some a15)) 1 (some a16)) 2 (some a17)) 3 (some a18)) 4 (some a19)) 5 (some a20))))))), (a15, .inr (7, [.int (-1), w21, w22])), (a16, .inr (7, [.int (-1), w23, w24])), (a17, .inr (7, [.int (-1), w25, w26])), (a18, .inr (7, [.int (-1), w27, w28])), (a20, .inr (7, [.int (-1), w31, w32]))]) (zrunV (As := []) (rest := []) ⟨hx, hb, hml, hown, ht⟩ (zc_X8_isNothing_0 l D y a19 w29 w30) (cwV 0 ht (zgV zm_1089 zm_1090 zm_1091 zm_39 zm_1092) rfl rfl rfl (by decide +kernel) ⟨(Nat.le_of_ble_eq_true rfl), (Nat.le_of_ble_eq_true rfl)⟩) hK hE hS hA hW [6] (by decide) rfl 0 rfl rfl rfl rfl hl.1 rfl (Nat.le_of_ble_eq_true rfl) dX9_shift_34 (Nat.le_of_ble_eq_true rfl) (Nat.le_of_ble_eq_true rfl)) hS hA hW [6] [0, 1, 2, 3, 4, 5, 7] rfl rfl (by decide) (by decide) (fun r155_ u H locs hw hW hS => ?_)
                          have hW : zPD D A [(a0, .inr (8, [w6, w7, w8, w9, w10, w11, w12, w13, .ref a14])), (a14, .inl (y 5, 6, .inr (.inr (.inr (.inr (va_up (va_up (va_up (va_up (va_up (va_up (fun _ => none) 0 (some a15)) 1 (some a16)) 2 (some a17)) 3 (some a18)) 4 (some a19)) 5 (some a20))))))), (a15, .inr (7, [.int (-1), w21, w22])), (a16, .inr (7, [.int (-1), w23, w24])), (a17, .inr (7, [.int (-1), w25, w26])), (a18, .inr (7, [.int (-1), w27, w28])), (a20, .inr (7, [.int (-1), w31, w32])), (a19, .inr (7, [.int (-1), w29, w30]))] H := hW
                          have hw : r155_ = 1 := hw
                          subst hw
                          refine lv_if_ne (tgt := 48) hx hb dX9_shift_37 (by decide) (fun c156_ => ?_) (fun c156_ => absurd c156_ (by decide))
                          refine lv_bipush (v := (-11)) hx hb dX9_shift_48 (by decide) ?_
                          exact zret_i (v := (-11)) hx hb hr hlocks hS () (by show _ = _; rw [if_neg c2_, if_neg c6_, if_neg c12_, if_neg c16_]) (hW.sub [] (by decide) rfl) (Nat.le_of_ble_eq_true rfl) (Nat.le_of_ble_eq_true rfl) dX9_shift_50
                        · have b157_ : 3 ≤ Int32.toInt p3 ∧ Int32.toInt p3 ≤ 5 := (by have u0 := b152_; have u1 := (not_congr (zi_eq _ _)).mp c153_; have u2 : (2 : Int32).toInt = 2 := (by decide); omega)
                          by_cases c158_ : p3 = 3
                          · have b159_ : 3 ≤ Int32.toInt p3 ∧ Int32.toInt p3 ≤ 3 := (by have u0 := b157_; have u1 := (zi_eq _ _).mp c158_; have u2 : (3 : Int32).toInt = 3 := (by decide); omega)
                            refine ztop (w := .int 3) (congrArg Value.int c158_) ?_
                            refine zaald (v := .ref a18) hx hb hK hW 1 5 rfl rfl (by unfold vp_in; decide) rfl dX9_shift_29 ?_
                            refine lv_astore (lv' := [(7, .ref a18), (6, .ref a19), (0, .ref a0), (1, .int p1), (2, .int p2), (3, .int p3), (4, .int p4), (5, .int p5)]) hx hb dX9_shift_30 hl (by decide) rfl (fun ls hl => ?_)
                            refine lv_aload hx hb dX9_shift_32 (lv_at hl 1 rfl) ?_
                            refine zgo_i (wr := [(a0, .inr (8, [w6, w7, w8, w9, w10, w11, w12, w13, .ref a14])), (a14, .inl (y 5, 6, .inr (.inr (.inr (.inr (va_up (va_up (va_up (va_up (va_up (va_up (fun _ => none) 0 (some a15)) 1 (some a16)) 2 (some a17)) 3 (some a18)) 4 (some a19)) 5 (some a20))))))), (a15, .inr (7, [.int (-1), w21, w22])), (a16, .inr (7, [.int (-1), w23, w24])), (a17, .inr (7, [.int (-1), w25, w26])), (a18, .inr (7, [.int (-1), w27, w28])), (a20, .inr (7, [.int (-1), w31, w32]))]) (zrunV (As := []) (rest := []) ⟨hx, hb, hml, hown, ht⟩ (zc_X8_isNothing_0 l D y a19 w29 w30) (cwV 0 ht (zgV zm_1089 zm_1090 zm_1091 zm_39 zm_1092) rfl rfl rfl (by decide +kernel) ⟨(Nat.le_of_ble_eq_true rfl), (Nat.le_of_ble_eq_true rfl)⟩) hK hE hS hA hW [6] (by decide) rfl 0 rfl rfl rfl rfl hl.1 rfl (Nat.le_of_ble_eq_true rfl) dX9_shift_34 (Nat.le_of_ble_eq_true rfl) (Nat.le_of_ble_eq_true rfl)) hS hA hW [6] [0, 1, 2, 3, 4, 5, 7] rfl rfl (by decide) (by decide) (fun r160_ u H locs hw hW hS => ?_)
                            have hW : zPD D A [(a0, .inr (8, [w6, w7, w8, w9, w10, w11, w12, w13, .ref a14])), (a14, .inl (y 5, 6, .inr (.inr (.inr (.inr (va_up (va_up (va_up (va_up (va_up (va_up (fun _ => none) 0 (some a15)) 1 (some a16)) 2 (some a17)) 3 (some a18)) 4 (some a19)) 5 (some a20))))))), (a15, .inr (7, [.int (-1), w21, w22])), (a16, .inr (7, [.int (-1), w23, w24])), (a17, .inr (7, [.int (-1), w25, w26])), (a18, .inr (7, [.int (-1), w27, w28])), (a20, .inr (7, [.int (-1), w31, w32])), (a19, .inr (7, [.int (-1), w29, w30]))] H := hW
                            have hw : r160_ = 1 := hw
                            subst hw
                            refine lv_if_ne (tgt := 48) hx hb dX9_shift_37 (by decide) (fun c161_ => ?_) (fun c161_ => absurd c161_ (by decide))
                            refine lv_bipush (v := (-11)) hx hb dX9_shift_48 (by decide) ?_
                            exact zret_i (v := (-11)) hx hb hr hlocks hS () (by show _ = _; rw [if_neg c2_, if_neg c6_, if_neg c12_, if_neg c16_]) (hW.sub [] (by decide) rfl) (Nat.le_of_ble_eq_true rfl) (Nat.le_of_ble_eq_true rfl) dX9_shift_50
                          · have b162_ : 4 ≤ Int32.toInt p3 ∧ Int32.toInt p3 ≤ 5 := (by have u0 := b157_; have u1 := (not_congr (zi_eq _ _)).mp c158_; have u2 : (3 : Int32).toInt = 3 := (by decide); omega)
                            by_cases c163_ : p3 = 4
                            · have b164_ : 4 ≤ Int32.toInt p3 ∧ Int32.toInt p3 ≤ 4 := (by have u0 := b162_; have u1 := (zi_eq _ _).mp c163_; have u2 : (4 : Int32).toInt = 4 := (by decide); omega)
                              refine ztop (w := .int 4) (congrArg Value.int c163_) ?_
                              refine zaald (v := .ref a19) hx hb hK hW 1 5 rfl rfl (by unfold vp_in; decide) rfl dX9_shift_29 ?_
                              refine lv_astore (lv' := [(7, .ref a19), (6, .ref a19), (0, .ref a0), (1, .int p1), (2, .int p2), (3, .int p3), (4, .int p4), (5, .int p5)]) hx hb dX9_shift_30 hl (by decide) rfl (fun ls hl => ?_)
                              refine lv_aload hx hb dX9_shift_32 (lv_at hl 1 rfl) ?_
                              refine zgo_i (wr := [(a0, .inr (8, [w6, w7, w8, w9, w10, w11, w12, w13, .ref a14])), (a14, .inl (y 5, 6, .inr (.inr (.inr (.inr (va_up (va_up (va_up (va_up (va_up (va_up (fun _ => none) 0 (some a15)) 1 (some a16)) 2 (some a17)) 3 (some a18)) 4 (some a19)) 5 (some a20))))))), (a15, .inr (7, [.int (-1), w21, w22])), (a16, .inr (7, [.int (-1), w23, w24])), (a17, .inr (7, [.int (-1), w25, w26])), (a18, .inr (7, [.int (-1), w27, w28])), (a20, .inr (7, [.int (-1), w31, w32]))]) (zrunV (As := []) (rest := []) ⟨hx, hb, hml, hown, ht⟩ (zc_X8_isNothing_0 l D y a19 w29 w30) (cwV 0 ht (zgV zm_1089 zm_1090 zm_1091 zm_39 zm_1092) rfl rfl rfl (by decide +kernel) ⟨(Nat.le_of_ble_eq_true rfl), (Nat.le_of_ble_eq_true rfl)⟩) hK hE hS hA hW [6] (by decide) rfl 0 rfl rfl rfl rfl hl.1 rfl (Nat.le_of_ble_eq_true rfl) dX9_shift_34 (Nat.le_of_ble_eq_true rfl) (Nat.le_of_ble_eq_true rfl)) hS hA hW [6] [0, 1, 2, 3, 4, 5, 7] rfl rfl (by decide) (by decide) (fun r165_ u H locs hw hW hS => ?_)
                              have hW : zPD D A [(a0, .inr (8, [w6, w7, w8, w9, w10, w11, w12, w13, .ref a14])), (a14, .inl (y 5, 6, .inr (.inr (.inr (.inr (va_up (va_up (va_up (va_up (va_up (va_up (fun _ => none) 0 (some a15)) 1 (some a16)) 2 (some a17)) 3 (some a18)) 4 (some a19)) 5 (some a20))))))), (a15, .inr (7, [.int (-1), w21, w22])), (a16, .inr (7, [.int (-1), w23, w24])), (a17, .inr (7, [.int (-1), w25, w26])), (a18, .inr (7, [.int (-1), w27, w28])), (a20, .inr (7, [.int (-1), w31, w32])), (a19, .inr (7, [.int (-1), w29, w30]))] H := hW
                              have hw : r165_ = 1 := hw
                              subst hw
                              refine lv_if_ne (tgt := 48) hx hb dX9_shift_37 (by decide) (fun c166_ => ?_) (fun c166_ => absurd c166_ (by decide))
                              refine lv_bipush (v := (-11)) hx hb dX9_shift_48 (by decide) ?_
                              exact zret_i (v := (-11)) hx hb hr hlocks hS () (by show _ = _; rw [if_neg c2_, if_neg c6_, if_neg c12_, if_neg c16_]) (hW.sub [] (by decide) rfl) (Nat.le_of_ble_eq_true rfl) (Nat.le_of_ble_eq_true rfl) dX9_shift_50
                            · have b167_ : 5 ≤ Int32.toInt p3 ∧ Int32.toInt p3 ≤ 5 := (by have u0 := b162_; have u1 := (not_congr (zi_eq _ _)).mp c163_; have u2 : (4 : Int32).toInt = 4 := (by decide); omega)
                              refine ztop (w := .int 5) (congrArg Value.int ((zi_eq _ _).mpr (by have u0 := b167_; have u1 : (5 : Int32).toInt = 5 := (by decide); omega))) ?_
                              refine zaald (v := .ref a20) hx hb hK hW 1 5 rfl rfl (by unfold vp_in; decide) rfl dX9_shift_29 ?_
                              refine lv_astore (lv' := [(7, .ref a20), (6, .ref a19), (0, .ref a0), (1, .int p1), (2, .int p2), (3, .int p3), (4, .int p4), (5, .int p5)]) hx hb dX9_shift_30 hl (by decide) rfl (fun ls hl => ?_)
                              refine lv_aload hx hb dX9_shift_32 (lv_at hl 1 rfl) ?_
                              refine zgo_i (wr := [(a0, .inr (8, [w6, w7, w8, w9, w10, w11, w12, w13, .ref a14])), (a14, .inl (y 5, 6, .inr (.inr (.inr (.inr (va_up (va_up (va_up (va_up (va_up (va_up (fun _ => none) 0 (some a15)) 1 (some a16)) 2 (some a17)) 3 (some a18)) 4 (some a19)) 5 (some a20))))))), (a15, .inr (7, [.int (-1), w21, w22])), (a16, .inr (7, [.int (-1), w23, w24])), (a17, .inr (7, [.int (-1), w25, w26])), (a18, .inr (7, [.int (-1), w27, w28])), (a20, .inr (7, [.int (-1), w31, w32]))]) (zrunV (As := []) (rest := []) ⟨hx, hb, hml, hown, ht⟩ (zc_X8_isNothing_0 l D y a19 w29 w30) (cwV 0 ht (zgV zm_1089 zm_1090 zm_1091 zm_39 zm_1092) rfl rfl rfl (by decide +kernel) ⟨(Nat.le_of_ble_eq_true rfl), (Nat.le_of_ble_eq_true rfl)⟩) hK hE hS hA hW [6] (by decide) rfl 0 rfl rfl rfl rfl hl.1 rfl (Nat.le_of_ble_eq_true rfl) dX9_shift_34 (Nat.le_of_ble_eq_true rfl) (Nat.le_of_ble_eq_true rfl)) hS hA hW [6] [0, 1, 2, 3, 4, 5, 7] rfl rfl (by decide) (by decide) (fun r168_ u H locs hw hW hS => ?_)
                              have hW : zPD D A [(a0, .inr (8, [w6, w7, w8, w9, w10, w11, w12, w13, .ref a14])), (a14, .inl (y 5, 6, .inr (.inr (.inr (.inr (va_up (va_up (va_up (va_up (va_up (va_up (fun _ => none) 0 (some a15)) 1 (some a16)) 2 (some a17)) 3 (some a18)) 4 (some a19)) 5 (some a20))))))), (a15, .inr (7, [.int (-1), w21, w22])), (a16, .inr (7, [.int (-1), w23, w24])), (a17, .inr (7, [.int (-1), w25, w26])), (a18, .inr (7, [.int (-1), w27, w28])), (a20, .inr (7, [.int (-1), w31, w32])), (a19, .inr (7, [.int (-1), w29, w30]))] H := hW
                              have hw : r168_ = 1 := hw
                              subst hw
                              refine lv_if_ne (tgt := 48) hx hb dX9_shift_37 (by decide) (fun c169_ => ?_) (fun c169_ => absurd c169_ (by decide))
                              refine lv_bipush (v := (-11)) hx hb dX9_shift_48 (by decide) ?_
                              exact zret_i (v := (-11)) hx hb hr hlocks hS () (by show _ = _; rw [if_neg c2_, if_neg c6_, if_neg c12_, if_neg c16_]) (hW.sub [] (by decide) rfl) (Nat.le_of_ble_eq_true rfl) (Nat.le_of_ble_eq_true rfl) dX9_shift_50
                  · have b170_ : 5 ≤ Int32.toInt p1 ∧ Int32.toInt p1 ≤ 5 := (by have u0 := b140_; have u1 := (not_congr (zi_eq _ _)).mp c141_; have u2 : (4 : Int32).toInt = 4 := (by decide); omega)
                    refine ztop (w := .int 5) (congrArg Value.int ((zi_eq _ _).mpr (by have u0 := b170_; have u1 : (5 : Int32).toInt = 5 := (by decide); omega))) ?_
                    refine zaald (v := .ref a20) hx hb hK hW 1 5 rfl rfl (by unfold vp_in; decide) rfl dX9_shift_21 ?_
                    refine lv_astore (lv' := [(6, .ref a20), (0, .ref a0), (1, .int p1), (2, .int p2), (3, .int p3), (4, .int p4), (5, .int p5)]) hx hb dX9_shift_22 hl (by decide) rfl (fun ls hl => ?_)
                    refine lv_aload_n hx hb dX9_shift_24 rfl (lv_at hl 1 rfl) ?_
                    refine zget hx hb ht inlX9 hown hK hW 0 rfl rfl 8 (by decide) zm_35 rfl dX9_shift_25 ?_
                    refine lv_iload_n hx hb dX9_shift_28 rfl (lv_at hl 4 rfl) ?_
                    by_cases c171_ : p3 = 0
                    · have b172_ : 0 ≤ Int32.toInt p3 ∧ Int32.toInt p3 ≤ 0 := (by have u0 := b19_; have u1 := (zi_eq _ _).mp c171_; have u2 : (0 : Int32).toInt = 0 := (by decide); omega)
                      refine ztop (w := .int 0) (congrArg Value.int c171_) ?_
                      refine zaald (v := .ref a15) hx hb hK hW 1 5 rfl rfl (by unfold vp_in; decide) rfl dX9_shift_29 ?_
                      refine lv_astore (lv' := [(7, .ref a15), (6, .ref a20), (0, .ref a0), (1, .int p1), (2, .int p2), (3, .int p3), (4, .int p4), (5, .int p5)]) hx hb dX9_shift_30 hl (by decide) rfl (fun ls hl => ?_)
                      refine lv_aload hx hb dX9_shift_32 (lv_at hl 1 rfl) ?_
                      refine zgo_i (wr := [(a0, .inr (8, [w6, w7, w8, w9, w10, w11, w12, w13, .ref a14])), (a14, .inl (y 5, 6, .inr (.inr (.inr (.inr (va_up (va_up (va_up (va_up (va_up (va_up (fun _ => none) 0 (some a15)) 1 (some a16)) 2 (some a17)) 3 (some a18)) 4 (some a19)) 5 (some a20))))))), (a15, .inr (7, [.int (-1), w21, w22])), (a16, .inr (7, [.int (-1), w23, w24])), (a17, .inr (7, [.int (-1), w25, w26])), (a18, .inr (7, [.int (-1), w27, w28])), (a19, .inr (7, [.int (-1), w29, w30]))]) (zrunV (As := []) (rest := []) ⟨hx, hb, hml, hown, ht⟩ (zc_X8_isNothing_0 l D y a20 w31 w32) (cwV 0 ht (zgV zm_1089 zm_1090 zm_1091 zm_39 zm_1092) rfl rfl rfl (by decide +kernel) ⟨(Nat.le_of_ble_eq_true rfl), (Nat.le_of_ble_eq_true rfl)⟩) hK hE hS hA hW [7] (by decide) rfl 0 rfl rfl rfl rfl hl.1 rfl (Nat.le_of_ble_eq_true rfl) dX9_shift_34 (Nat.le_of_ble_eq_true rfl) (Nat.le_of_ble_eq_true rfl)) hS hA hW [7] [0, 1, 2, 3, 4, 5, 6] rfl rfl (by decide) (by decide) (fun r173_ u H locs hw hW hS => ?_)
                      have hW : zPD D A [(a0, .inr (8, [w6, w7, w8, w9, w10, w11, w12, w13, .ref a14])), (a14, .inl (y 5, 6, .inr (.inr (.inr (.inr (va_up (va_up (va_up (va_up (va_up (va_up (fun _ => none) 0 (some a15)) 1 (some a16)) 2 (some a17)) 3 (some a18)) 4 (some a19)) 5 (some a20))))))), (a15, .inr (7, [.int (-1), w21, w22])), (a16, .inr (7, [.int (-1), w23, w24])), (a17, .inr (7, [.int (-1), w25, w26])), (a18, .inr (7, [.int (-1), w27, w28])), (a19, .inr (7, [.int (-1), w29, w30])), (a20, .inr (7, [.int (-1), w31, w32]))] H := hW
                      have hw : r173_ = 1 := hw
                      subst hw
                      refine lv_if_ne (tgt := 48) hx hb dX9_shift_37 (by decide) (fun c174_ => ?_) (fun c174_ => absurd c174_ (by decide))
                      refine lv_bipush (v := (-11)) hx hb dX9_shift_48 (by decide) ?_
                      exact zret_i (v := (-11)) hx hb hr hlocks hS () (by show _ = _; rw [if_neg c2_, if_neg c6_, if_neg c12_, if_neg c16_]) (hW.sub [] (by decide) rfl) (Nat.le_of_ble_eq_true rfl) (Nat.le_of_ble_eq_true rfl) dX9_shift_50
                    · have b175_ : 1 ≤ Int32.toInt p3 ∧ Int32.toInt p3 ≤ 5 := (by have u0 := b19_; have u1 := (not_congr (zi_eq _ _)).mp c171_; have u2 : (0 : Int32).toInt = 0 := (by decide); omega)
                      by_cases c176_ : p3 = 1
                      · have b177_ : 1 ≤ Int32.toInt p3 ∧ Int32.toInt p3 ≤ 1 := (by have u0 := b175_; have u1 := (zi_eq _ _).mp c176_; have u2 : (1 : Int32).toInt = 1 := (by decide); omega)
                        refine ztop (w := .int 1) (congrArg Value.int c176_) ?_
                        refine zaald (v := .ref a16) hx hb hK hW 1 5 rfl rfl (by unfold vp_in; decide) rfl dX9_shift_29 ?_
                        refine lv_astore (lv' := [(7, .ref a16), (6, .ref a20), (0, .ref a0), (1, .int p1), (2, .int p2), (3, .int p3), (4, .int p4), (5, .int p5)]) hx hb dX9_shift_30 hl (by decide) rfl (fun ls hl => ?_)
                        refine lv_aload hx hb dX9_shift_32 (lv_at hl 1 rfl) ?_
                        refine zgo_i (wr := [(a0, .inr (8, [w6, w7, w8, w9, w10, w11, w12, w13, .ref a14])), (a14, .inl (y 5, 6, .inr (.inr (.inr (.inr (va_up (va_up (va_up (va_up (va_up (va_up (fun _ => none) 0 (some a15)) 1 (some a16)) 2 (some a17)) 3 (some a18)) 4 (some a19)) 5 (some a20))))))), (a15, .inr (7, [.int (-1), w21, w22])), (a16, .inr (7, [.int (-1), w23, w24])), (a17, .inr (7, [.int (-1), w25, w26])), (a18, .inr (7, [.int (-1), w27, w28])), (a19, .inr (7, [.int (-1), w29, w30]))]) (zrunV (As := []) (rest := []) ⟨hx, hb, hml, hown, ht⟩ (zc_X8_isNothing_0 l D y a20 w31 w32) (cwV 0 ht (zgV zm_1089 zm_1090 zm_1091 zm_39 zm_1092) rfl rfl rfl (by decide +kernel) ⟨(Nat.le_of_ble_eq_true rfl), (Nat.le_of_ble_eq_true rfl)⟩) hK hE hS hA hW [7] (by decide) rfl 0 rfl rfl rfl rfl hl.1 rfl (Nat.le_of_ble_eq_true rfl) dX9_shift_34 (Nat.le_of_ble_eq_true rfl) (Nat.le_of_ble_eq_true rfl)) hS hA hW [7] [0, 1, 2, 3, 4, 5, 6] rfl rfl (by decide) (by decide) (fun r178_ u H locs hw hW hS => ?_)
                        have hW : zPD D A [(a0, .inr (8, [w6, w7, w8, w9, w10, w11, w12, w13, .ref a14])), (a14, .inl (y 5, 6, .inr (.inr (.inr (.inr (va_up (va_up (va_up (va_up (va_up (va_up (fun _ => none) 0 (some a15)) 1 (some a16)) 2 (some a17)) 3 (some a18)) 4 (some a19)) 5 (some a20))))))), (a15, .inr (7, [.int (-1), w21, w22])), (a16, .inr (7, [.int (-1), w23, w24])), (a17, .inr (7, [.int (-1), w25, w26])), (a18, .inr (7, [.int (-1), w27, w28])), (a19, .inr (7, [.int (-1), w29, w30])), (a20, .inr (7, [.int (-1), w31, w32]))] H := hW
                        have hw : r178_ = 1 := hw
                        subst hw
                        refine lv_if_ne (tgt := 48) hx hb dX9_shift_37 (by decide) (fun c179_ => ?_) (fun c179_ => absurd c179_ (by decide))
                        refine lv_bipush (v := (-11)) hx hb dX9_shift_48 (by decide) ?_
                        exact zret_i (v := (-11)) hx hb hr hlocks hS () (by show _ = _; rw [if_neg c2_, if_neg c6_, if_neg c12_, if_neg c16_]) (hW.sub [] (by decide) rfl) (Nat.le_of_ble_eq_true rfl) (Nat.le_of_ble_eq_true rfl) dX9_shift_50
                      · have b180_ : 2 ≤ Int32.toInt p3 ∧ Int32.toInt p3 ≤ 5 := (by have u0 := b175_; have u1 := (not_congr (zi_eq _ _)).mp c176_; have u2 : (1 : Int32).toInt = 1 := (by decide); omega)
                        by_cases c181_ : p3 = 2
                        · have b182_ : 2 ≤ Int32.toInt p3 ∧ Int32.toInt p3 ≤ 2 := (by have u0 := b180_; have u1 := (zi_eq _ _).mp c181_; have u2 : (2 : Int32).toInt = 2 := (by decide); omega)
                          refine ztop (w := .int 2) (congrArg Value.int c181_) ?_
                          refine zaald (v := .ref a17) hx hb hK hW 1 5 rfl rfl (by unfold vp_in; decide) rfl dX9_shift_29 ?_
                          refine lv_astore (lv' := [(7, .ref a17), (6, .ref a20), (0, .ref a0), (1, .int p1), (2, .int p2), (3, .int p3), (4, .int p4), (5, .int p5)]) hx hb dX9_shift_30 hl (by decide) rfl (fun ls hl => ?_)
                          refine lv_aload hx hb dX9_shift_32 (lv_at hl 1 rfl) ?_
                          refine zgo_i (wr := [(a0, .inr (8, [w6, w7, w8, w9, w10, w11, w12, w13, .ref a14])), (a14, .inl (y 5, 6, .inr (.inr (.inr (.inr (va_up (va_up (va_up (va_up (va_up (va_up (fun _ => none) 0 (some a15)) 1 (some a16)) 2 (some a17)) 3 (some a18)) 4 (some a19)) 5 (some a20))))))), (a15, .inr (7, [.int (-1), w21, w22])), (a16, .inr (7, [.int (-1), w23, w24])), (a17, .inr (7, [.int (-1), w25, w26])), (a18, .inr (7, [.int (-1), w27, w28])), (a19, .inr (7, [.int (-1), w29, w30]))]) (zrunV (As := []) (rest := []) ⟨hx, hb, hml, hown, ht⟩ (zc_X8_isNothing_0 l D y a20 w31 w32) (cwV 0 ht (zgV zm_1089 zm_1090 zm_1091 zm_39 zm_1092) rfl rfl rfl (by decide +kernel) ⟨(Nat.le_of_ble_eq_true rfl), (Nat.le_of_ble_eq_true rfl)⟩) hK hE hS hA hW [7] (by decide) rfl 0 rfl rfl rfl rfl hl.1 rfl (Nat.le_of_ble_eq_true rfl) dX9_shift_34 (Nat.le_of_ble_eq_true rfl) (Nat.le_of_ble_eq_true rfl)) hS hA hW [7] [0, 1, 2, 3, 4, 5, 6] rfl rfl (by decide) (by decide) (fun r183_ u H locs hw hW hS => ?_)
                          have hW : zPD D A [(a0, .inr (8, [w6, w7, w8, w9, w10, w11, w12, w13, .ref a14])), (a14, .inl (y 5, 6, .inr (.inr (.inr (.inr (va_up (va_up (va_up (va_up (va_up (va_up (fun _ => none) 0 (some a15)) 1 (some a16)) 2 (some a17)) 3 (some a18)) 4 (some a19)) 5 (some a20))))))), (a15, .inr (7, [.int (-1), w21, w22])), (a16, .inr (7, [.int (-1), w23, w24])), (a17, .inr (7, [.int (-1), w25, w26])), (a18, .inr (7, [.int (-1), w27, w28])), (a19, .inr (7, [.int (-1), w29, w30])), (a20, .inr (7, [.int (-1), w31, w32]))] H := hW
                          have hw : r183_ = 1 := hw
                          subst hw
                          refine lv_if_ne (tgt := 48) hx hb dX9_shift_37 (by decide) (fun c184_ => ?_) (fun c184_ => absurd c184_ (by decide))
                          refine lv_bipush (v := (-11)) hx hb dX9_shift_48 (by decide) ?_
                          exact zret_i (v := (-11)) hx hb hr hlocks hS () (by show _ = _; rw [if_neg c2_, if_neg c6_, if_neg c12_, if_neg c16_]) (hW.sub [] (by decide) rfl) (Nat.le_of_ble_eq_true rfl) (Nat.le_of_ble_eq_true rfl) dX9_shift_50
                        · have b185_ : 3 ≤ Int32.toInt p3 ∧ Int32.toInt p3 ≤ 5 := (by have u0 := b180_; have u1 := (not_congr (zi_eq _ _)).mp c181_; have u2 : (2 : Int32).toInt = 2 := (by decide); omega)
                          by_cases c186_ : p3 = 3
                          · have b187_ : 3 ≤ Int32.toInt p3 ∧ Int32.toInt p3 ≤ 3 := (by have u0 := b185_; have u1 := (zi_eq _ _).mp c186_; have u2 : (3 : Int32).toInt = 3 := (by decide); omega)
                            refine ztop (w := .int 3) (congrArg Value.int c186_) ?_
                            refine zaald (v := .ref a18) hx hb hK hW 1 5 rfl rfl (by unfold vp_in; decide) rfl dX9_shift_29 ?_
                            refine lv_astore (lv' := [(7, .ref a18), (6, .ref a20), (0, .ref a0), (1, .int p1), (2, .int p2), (3, .int p3), (4, .int p4), (5, .int p5)]) hx hb dX9_shift_30 hl (by decide) rfl (fun ls hl => ?_)
                            refine lv_aload hx hb dX9_shift_32 (lv_at hl 1 rfl) ?_
                            refine zgo_i (wr := [(a0, .inr (8, [w6, w7, w8, w9, w10, w11, w12, w13, .ref a14])), (a14, .inl (y 5, 6, .inr (.inr (.inr (.inr (va_up (va_up (va_up (va_up (va_up (va_up (fun _ => none) 0 (some a15)) 1 (some a16)) 2 (some a17)) 3 (some a18)) 4 (some a19)) 5 (some a20))))))), (a15, .inr (7, [.int (-1), w21, w22])), (a16, .inr (7, [.int (-1), w23, w24])), (a17, .inr (7, [.int (-1), w25, w26])), (a18, .inr (7, [.int (-1), w27, w28])), (a19, .inr (7, [.int (-1), w29, w30]))]) (zrunV (As := []) (rest := []) ⟨hx, hb, hml, hown, ht⟩ (zc_X8_isNothing_0 l D y a20 w31 w32) (cwV 0 ht (zgV zm_1089 zm_1090 zm_1091 zm_39 zm_1092) rfl rfl rfl (by decide +kernel) ⟨(Nat.le_of_ble_eq_true rfl), (Nat.le_of_ble_eq_true rfl)⟩) hK hE hS hA hW [7] (by decide) rfl 0 rfl rfl rfl rfl hl.1 rfl (Nat.le_of_ble_eq_true rfl) dX9_shift_34 (Nat.le_of_ble_eq_true rfl) (Nat.le_of_ble_eq_true rfl)) hS hA hW [7] [0, 1, 2, 3, 4, 5, 6] rfl rfl (by decide) (by decide) (fun r188_ u H locs hw hW hS => ?_)
                            have hW : zPD D A [(a0, .inr (8, [w6, w7, w8, w9, w10, w11, w12, w13, .ref a14])), (a14, .inl (y 5, 6, .inr (.inr (.inr (.inr (va_up (va_up (va_up (va_up (va_up (va_up (fun _ => none) 0 (some a15)) 1 (some a16)) 2 (some a17)) 3 (some a18)) 4 (some a19)) 5 (some a20))))))), (a15, .inr (7, [.int (-1), w21, w22])), (a16, .inr (7, [.int (-1), w23, w24])), (a17, .inr (7, [.int (-1), w25, w26])), (a18, .inr (7, [.int (-1), w27, w28])), (a19, .inr (7, [.int (-1), w29, w30])), (a20, .inr (7, [.int (-1), w31, w32]))] H := hW
                            have hw : r188_ = 1 := hw
                            subst hw
                            refine lv_if_ne (tgt := 48) hx hb dX9_shift_37 (by decide) (fun c189_ => ?_) (fun c189_ => absurd c189_ (by decide))
                            refine lv_bipush (v := (-11)) hx hb dX9_shift_48 (by decide) ?_
                            exact zret_i (v := (-11)) hx hb hr hlocks hS () (by show _ = _; rw [if_neg c2_, if_neg c6_, if_neg c12_, if_neg c16_]) (hW.sub [] (by decide) rfl) (Nat.le_of_ble_eq_true rfl) (Nat.le_of_ble_eq_true rfl) dX9_shift_50
                          · have b190_ : 4 ≤ Int32.toInt p3 ∧ Int32.toInt p3 ≤ 5 := (by have u0 := b185_; have u1 := (not_congr (zi_eq _ _)).mp c186_; have u2 : (3 : Int32).toInt = 3 := (by decide); omega)
                            by_cases c191_ : p3 = 4
                            · have b192_ : 4 ≤ Int32.toInt p3 ∧ Int32.toInt p3 ≤ 4 := (by have u0 := b190_; have u1 := (zi_eq _ _).mp c191_; have u2 : (4 : Int32).toInt = 4 := (by decide); omega)
                              refine ztop (w := .int 4) (congrArg Value.int c191_) ?_
                              refine zaald (v := .ref a19) hx hb hK hW 1 5 rfl rfl (by unfold vp_in; decide) rfl dX9_shift_29 ?_
                              refine lv_astore (lv' := [(7, .ref a19), (6, .ref a20), (0, .ref a0), (1, .int p1), (2, .int p2), (3, .int p3), (4, .int p4), (5, .int p5)]) hx hb dX9_shift_30 hl (by decide) rfl (fun ls hl => ?_)
                              refine lv_aload hx hb dX9_shift_32 (lv_at hl 1 rfl) ?_
                              refine zgo_i (wr := [(a0, .inr (8, [w6, w7, w8, w9, w10, w11, w12, w13, .ref a14])), (a14, .inl (y 5, 6, .inr (.inr (.inr (.inr (va_up (va_up (va_up (va_up (va_up (va_up (fun _ => none) 0 (some a15)) 1 (some a16)) 2 (some a17)) 3 (some a18)) 4 (some a19)) 5 (some a20))))))), (a15, .inr (7, [.int (-1), w21, w22])), (a16, .inr (7, [.int (-1), w23, w24])), (a17, .inr (7, [.int (-1), w25, w26])), (a18, .inr (7, [.int (-1), w27, w28])), (a19, .inr (7, [.int (-1), w29, w30]))]) (zrunV (As := []) (rest := []) ⟨hx, hb, hml, hown, ht⟩ (zc_X8_isNothing_0 l D y a20 w31 w32) (cwV 0 ht (zgV zm_1089 zm_1090 zm_1091 zm_39 zm_1092) rfl rfl rfl (by decide +kernel) ⟨(Nat.le_of_ble_eq_true rfl), (Nat.le_of_ble_eq_true rfl)⟩) hK hE hS hA hW [7] (by decide) rfl 0 rfl rfl rfl rfl hl.1 rfl (Nat.le_of_ble_eq_true rfl) dX9_shift_34 (Nat.le_of_ble_eq_true rfl) (Nat.le_of_ble_eq_true rfl)) hS hA hW [7] [0, 1, 2, 3, 4, 5, 6] rfl rfl (by decide) (by decide) (fun r193_ u H locs hw hW hS => ?_)
                              have hW : zPD D A [(a0, .inr (8, [w6, w7, w8, w9, w10, w11, w12, w13, .ref a14])), (a14, .inl (y 5, 6, .inr (.inr (.inr (.inr (va_up (va_up (va_up (va_up (va_up (va_up (fun _ => none) 0 (some a15)) 1 (some a16)) 2 (some a17)) 3 (some a18)) 4 (some a19)) 5 (some a20))))))), (a15, .inr (7, [.int (-1), w21, w22])), (a16, .inr (7, [.int (-1), w23, w24])), (a17, .inr (7, [.int (-1), w25, w26])), (a18, .inr (7, [.int (-1), w27, w28])), (a19, .inr (7, [.int (-1), w29, w30])), (a20, .inr (7, [.int (-1), w31, w32]))] H := hW
                              have hw : r193_ = 1 := hw
                              subst hw
                              refine lv_if_ne (tgt := 48) hx hb dX9_shift_37 (by decide) (fun c194_ => ?_) (fun c194_ => absurd c194_ (by decide))
                              refine lv_bipush (v := (-11)) hx hb dX9_shift_48 (by decide) ?_
                              exact zret_i (v := (-11)) hx hb hr hlocks hS () (by show _ = _; rw [if_neg c2_, if_neg c6_, if_neg c12_, if_neg c16_]) (hW.sub [] (by decide) rfl) (Nat.le_of_ble_eq_true rfl) (Nat.le_of_ble_eq_true rfl) dX9_shift_50
                            · have b195_ : 5 ≤ Int32.toInt p3 ∧ Int32.toInt p3 ≤ 5 := (by have u0 := b190_; have u1 := (not_congr (zi_eq _ _)).mp c191_; have u2 : (4 : Int32).toInt = 4 := (by decide); omega)
                              refine ztop (w := .int 5) (congrArg Value.int ((zi_eq _ _).mpr (by have u0 := b195_; have u1 : (5 : Int32).toInt = 5 := (by decide); omega))) ?_
                              refine zaald (v := .ref a20) hx hb hK hW 1 5 rfl rfl (by unfold vp_in; decide) rfl dX9_shift_29 ?_
                              refine lv_astore (lv' := [(7, .ref a20), (6, .ref a20), (0, .ref a0), (1, .int p1), (2, .int p2), (3, .int p3), (4, .int p4), (5, .int p5)]) hx hb dX9_shift_30 hl (by decide) rfl (fun ls hl => ?_)
                              refine lv_aload hx hb dX9_shift_32 (lv_at hl 1 rfl) ?_
                              refine zgo_i (wr := [(a0, .inr (8, [w6, w7, w8, w9, w10, w11, w12, w13, .ref a14])), (a14, .inl (y 5, 6, .inr (.inr (.inr (.inr (va_up (va_up (va_up (va_up (va_up (va_up (fun _ => none) 0 (some a15)) 1 (some a16)) 2 (some a17)) 3 (some a18)) 4 (some a19)) 5 (some a20))))))), (a15, .inr (7, [.int (-1), w21, w22])), (a16, .inr (7, [.int (-1), w23, w24])), (a17, .inr (7, [.int (-1), w25, w26])), (a18, .inr (7, [.int (-1), w27, w28])), (a19, .inr (7, [.int (-1), w29, w30]))]) (zrunV (As := []) (rest := []) ⟨hx, hb, hml, hown, ht⟩ (zc_X8_isNothing_0 l D y a20 w31 w32) (cwV 0 ht (zgV zm_1089 zm_1090 zm_1091 zm_39 zm_1092) rfl rfl rfl (by decide +kernel) ⟨(Nat.le_of_ble_eq_true rfl), (Nat.le_of_ble_eq_true rfl)⟩) hK hE hS hA hW [7] (by decide) rfl 0 rfl rfl rfl rfl hl.1 rfl (Nat.le_of_ble_eq_true rfl) dX9_shift_34 (Nat.le_of_ble_eq_true rfl) (Nat.le_of_ble_eq_true rfl)) hS hA hW [7] [0, 1, 2, 3, 4, 5, 6] rfl rfl (by decide) (by decide) (fun r196_ u H locs hw hW hS => ?_)
                              have hW : zPD D A [(a0, .inr (8, [w6, w7, w8, w9, w10, w11, w12, w13, .ref a14])), (a14, .inl (y 5, 6, .inr (.inr (.inr (.inr (va_up (va_up (va_up (va_up (va_up (va_up (fun _ => none) 0 (some a15)) 1 (some a16)) 2 (some a17)) 3 (some a18)) 4 (some a19)) 5 (some a20))))))), (a15, .inr (7, [.int (-1), w21, w22])), (a16, .inr (7, [.int (-1), w23, w24])), (a17, .inr (7, [.int (-1), w25, w26])), (a18, .inr (7, [.int (-1), w27, w28])), (a19, .inr (7, [.int (-1), w29, w30])), (a20, .inr (7, [.int (-1), w31, w32]))] H := hW
                              have hw : r196_ = 1 := hw
                              subst hw
                              refine lv_if_ne (tgt := 48) hx hb dX9_shift_37 (by decide) (fun c197_ => ?_) (fun c197_ => absurd c197_ (by decide))
                              refine lv_bipush (v := (-11)) hx hb dX9_shift_48 (by decide) ?_
                              exact zret_i (v := (-11)) hx hb hr hlocks hS () (by show _ = _; rw [if_neg c2_, if_neg c6_, if_neg c12_, if_neg c16_]) (hW.sub [] (by decide) rfl) (Nat.le_of_ble_eq_true rfl) (Nat.le_of_ble_eq_true rfl) dX9_shift_50
set_option maxHeartbeats 8000000 in
set_option maxRecDepth 100000 in
theorem zc_X10_shift_0 (l : Launch) (D : va_G) (y : Nat → ClassId) (a0 : Nat) (p1 : Int32) (p2 : Int32) (p3 : Int32) (p4 : Int32) (p5 : Int32) (w6 : Value) (w7 : Value) (w8 : Value) (w9 : Value) (w10 : Value) (w11 : Value) (w12 : Value) (w13 : Value) (w14 : Value) (w15 : Value) (w16 : Value) (w17 : Value) (w18 : Value) (w19 : Value) (w20 : Value) (w21 : Value) (w22 : Value) (w23 : Value) (w24 : Value) (w25 : Value) (w26 : Value) (w27 : Value) (w28 : Value) (w29 : Value) (w30 : Value) (w31 : Value) (w32 : Value) (w33 : Value) (w34 : Value) (w35 : Value) (w36 : Value) (w37 : Value) (w38 : Value) (w39 : Value) (w40 : Value) (w41 : Value) (w42 : Value) (w43 : Value) (w44 : Value) (w45 : Value) (w46 : Value) (w47 : Value) (w48 : Value) (w49 : Value) (w50 : Value) (w51 : Value) (w52 : Value) (w53 : Value) (w54 : Value) (w55 : Value) (w56 : Value) (w57 : Value) (w58 : Value) (w59 : Value) (w60 : Value) (w61 : Value) (w62 : Value) (w63 : Value) (w64 : Value) (w65 : Value) (w66 : Value) (w67 : Value) (w68 : Value) (w69 : Value) (w70 : Value) (w71 : Value) (w72 : Value) (w73 : Value) (w74 : Value) (w75 : Value) (w76 : Value) (w77 : Value) (a78 : Nat) (w79 : Value) (w80 : Value) (w81 : Value) : zM l D y yX10_shift (Cond.code yX10_shift cX10_shift 7 (some .int) :: zT) { frames := 2, cells := 0, slots := 0, locals := 44 } [.ref a0, .int p1, .int p2, .int p3, .int p4, .int p5] [(a0, .inr (9, [w6, w7, w8, w9, w10, w11, w12, w13, w14, w15, w16, w17, w18, w19, w20, w21, w22, w23, w24, w25, w26, w27, w28, w29, w30, w31, w32, w33, w34, w35, w36, w37, w38, w39, w40, w41, w42, w43, w44, w45, w46, w47, w48, w49, w50, w51, w52, w53, w54, w55, w56, w57, w58, w59, w60, w61, w62, w63, w64, w65, w66, w67, w68, w69, w70, w71, w72, w73, w74, w75, w76, w77, .ref a78, w79, w80, w81])), (a78, .inl (y 0, 6, .inl (upd (upd (upd (upd (upd (upd (fun _ => 0) 0 (-1)) 1 (-1)) 2 (-1)) 3 (-1)) 4 (-1)) 5 (-1))))] (zQi (S := Unit) D (fun r_ _ => r_ = (if p1 < 0 then (-1) else (if 5 < p1 then (-1) else (if p3 < 0 then (-1) else (if 5 < p3 then (-1) else (-11)))))) (fun _ => [])) := by
  refine zent (cc := cX10_shift) (maxL := 7) (ret := (some .int)) (by decide) (Nat.le_of_ble_eq_true rfl) ?_
  intro p e s m below meth c A H locs ls hx hb hml hr ht hown hlocks hin hA hK hE hS hW hl
  have hown : s.vm.findClass RX10 = some m.cls := hown
  have hW : zPD D A [(a0, .inr (9, [w6, w7, w8, w9, w10, w11, w12, w13, w14, w15, w16, w17, w18, w19, w20, w21, w22, w23, w24, w25, w26, w27, w28, w29, w30, w31, w32, w33, w34, w35, w36, w37, w38, w39, w40, w41, w42, w43, w44, w45, w46, w47, w48, w49, w50, w51, w52, w53, w54, w55, w56, w57, w58, w59, w60, w61, w62, w63, w64, w65, w66, w67, w68, w69, w70, w71, w72, w73, w74, w75, w76, w77, .ref a78, w79, w80, w81])), (a78, .inl (y 0, 6, .inl (upd (upd (upd (upd (upd (upd (fun _ => 0) 0 (-1)) 1 (-1)) 2 (-1)) 3 (-1)) 4 (-1)) 5 (-1))))] H := hW
  have hl : lv_has ls 7 [(0, .ref a0), (1, .int p1), (2, .int p2), (3, .int p3), (4, .int p4), (5, .int p5)] := hl
  refine lv_aload_n hx hb dX10_shift_0 rfl (lv_at hl 0 rfl) ?_
  refine lv_iload_n hx hb dX10_shift_1 rfl (lv_at hl 1 rfl) ?_
  refine zgo_i (wr := [(a78, .inl (y 0, 6, .inl (upd (upd (upd (upd (upd (upd (fun _ => 0) 0 (-1)) 1 (-1)) 2 (-1)) 3 (-1)) 4 (-1)) 5 (-1))))]) (zrunV (As := [.int p1]) (rest := []) ⟨hx, hb, hml, hown, ht⟩ (zc_X10_isTape_0 l D y a0 p1 w6 w7 w8 w9 w10 w11 w12 w13 w14 w15 w16 w17 w18 w19 w20 w21 w22 w23 w24 w25 w26 w27 w28 w29 w30 w31 w32 w33 w34 w35 w36 w37 w38 w39 w40 w41 w42 w43 w44 w45 w46 w47 w48 w49 w50 w51 w52 w53 w54 w55 w56 w57 w58 w59 w60 w61 w62 w63 w64 w65 w66 w67 w68 w69 w70 w71 w72 w73 w74 w75 w76 w77 (.ref a78) w79 w80 w81) (cwV 1 ht (zgV zm_1097 zm_1098 zm_1099 zm_5 zm_1100) rfl rfl rfl (by decide +kernel) ⟨(Nat.le_of_ble_eq_true rfl), (Nat.le_of_ble_eq_true rfl)⟩) hK hE hS hA hW [0] (by decide) rfl 0 rfl rfl rfl rfl hl.1 rfl (Nat.le_of_ble_eq_true rfl) dX10_shift_2 (Nat.le_of_ble_eq_true rfl) (Nat.le_of_ble_eq_true rfl)) hS hA hW [0] [1] rfl rfl (by decide) (by decide) (fun r1_ u H locs hw hW hS => ?_)
  have hW : zPD D A [(a78, .inl (y 0, 6, .inl (upd (upd (upd (upd (upd (upd (fun _ => 0) 0 (-1)) 1 (-1)) 2 (-1)) 3 (-1)) 4 (-1)) 5 (-1)))), (a0, .inr (9, [w6, w7, w8, w9, w10, w11, w12, w13, w14, w15, w16, w17, w18, w19, w20, w21, w22, w23, w24, w25, w26, w27, w28, w29, w30, w31, w32, w33, w34, w35, w36, w37, w38, w39, w40, w41, w42, w43, w44, w45, w46, w47, w48, w49, w50, w51, w52, w53, w54, w55, w56, w57, w58, w59, w60, w61, w62, w63, w64, w65, w66, w67, w68, w69, w70, w71, w72, w73, w74, w75, w76, w77, .ref a78, w79, w80, w81]))] H := hW
  have hw : r1_ = (if p1 < 0 then 0 else (if 5 < p1 then 0 else 1)) := hw
  by_cases c2_ : p1 < 0
  · have b3_ : (-2147483648) ≤ Int32.toInt p1 ∧ Int32.toInt p1 ≤ (-1) := (by have u0 := zbnd p1; have u1 := (zi_lt _ _).mp c2_; have u2 : (0 : Int32).toInt = 0 := (by decide); omega)
    rw [if_pos c2_] at hw
    subst hw
    refine lv_if_eq (tgt := 16) hx hb dX10_shift_5 (by decide) (fun c4_ => ?_) (fun c4_ => absurd (by decide) c4_)
    refine lv_iconst (v := (-1)) hx hb dX10_shift_16 (by decide) ?_
    exact zret_i (v := (-1)) hx hb hr hlocks hS () (by show _ = _; rw [if_pos c2_]) (hW.sub [] (by decide) rfl) (Nat.le_of_ble_eq_true rfl) (Nat.le_of_ble_eq_true rfl) dX10_shift_17
  · have b5_ : 0 ≤ Int32.toInt p1 ∧ Int32.toInt p1 ≤ 2147483647 := (by have u0 := zbnd p1; have u1 := (not_congr (zi_lt _ _)).mp c2_; have u2 : (0 : Int32).toInt = 0 := (by decide); omega)
    rw [if_neg c2_] at hw
    by_cases c6_ : 5 < p1
    · have b7_ : 6 ≤ Int32.toInt p1 ∧ Int32.toInt p1 ≤ 2147483647 := (by have u0 := b5_; have u1 := (zi_lt _ _).mp c6_; have u2 : (5 : Int32).toInt = 5 := (by decide); omega)
      rw [if_pos c6_] at hw
      subst hw
      refine lv_if_eq (tgt := 16) hx hb dX10_shift_5 (by decide) (fun c8_ => ?_) (fun c8_ => absurd (by decide) c8_)
      refine lv_iconst (v := (-1)) hx hb dX10_shift_16 (by decide) ?_
      exact zret_i (v := (-1)) hx hb hr hlocks hS () (by show _ = _; rw [if_neg c2_, if_pos c6_]) (hW.sub [] (by decide) rfl) (Nat.le_of_ble_eq_true rfl) (Nat.le_of_ble_eq_true rfl) dX10_shift_17
    · have b9_ : 0 ≤ Int32.toInt p1 ∧ Int32.toInt p1 ≤ 5 := (by have u0 := b5_; have u1 := (not_congr (zi_lt _ _)).mp c6_; have u2 : (5 : Int32).toInt = 5 := (by decide); omega)
      rw [if_neg c6_] at hw
      subst hw
      refine lv_if_eq (tgt := 16) hx hb dX10_shift_5 (by decide) (fun c10_ => absurd c10_ (by decide)) (fun c10_ => ?_)
      refine lv_aload_n hx hb dX10_shift_8 rfl (lv_at hl 0 rfl) ?_
      refine lv_iload_n hx hb dX10_shift_9 rfl (lv_at hl 3 rfl) ?_
      refine zgo_i (wr := [(a78, .inl (y 0, 6, .inl (upd (upd (upd (upd (upd (upd (fun _ => 0) 0 (-1)) 1 (-1)) 2 (-1)) 3 (-1)) 4 (-1)) 5 (-1))))]) (zrunV (As := [.int p3]) (rest := []) ⟨hx, hb, hml, hown, ht⟩ (zc_X10_isTape_0 l D y a0 p3 w6 w7 w8 w9 w10 w11 w12 w13 w14 w15 w16 w17 w18 w19 w20 w21 w22 w23 w24 w25 w26 w27 w28 w29 w30 w31 w32 w33 w34 w35 w36 w37 w38 w39 w40 w41 w42 w43 w44 w45 w46 w47 w48 w49 w50 w51 w52 w53 w54 w55 w56 w57 w58 w59 w60 w61 w62 w63 w64 w65 w66 w67 w68 w69 w70 w71 w72 w73 w74 w75 w76 w77 (.ref a78) w79 w80 w81) (cwV 1 ht (zgV zm_1097 zm_1098 zm_1099 zm_5 zm_1100) rfl rfl rfl (by decide +kernel) ⟨(Nat.le_of_ble_eq_true rfl), (Nat.le_of_ble_eq_true rfl)⟩) hK hE hS hA hW [1] (by decide) rfl 0 rfl rfl rfl rfl hl.1 rfl (Nat.le_of_ble_eq_true rfl) dX10_shift_10 (Nat.le_of_ble_eq_true rfl) (Nat.le_of_ble_eq_true rfl)) hS hA hW [1] [0] rfl rfl (by decide) (by decide) (fun r11_ u H locs hw hW hS => ?_)
      have hW : zPD D A [(a78, .inl (y 0, 6, .inl (upd (upd (upd (upd (upd (upd (fun _ => 0) 0 (-1)) 1 (-1)) 2 (-1)) 3 (-1)) 4 (-1)) 5 (-1)))), (a0, .inr (9, [w6, w7, w8, w9, w10, w11, w12, w13, w14, w15, w16, w17, w18, w19, w20, w21, w22, w23, w24, w25, w26, w27, w28, w29, w30, w31, w32, w33, w34, w35, w36, w37, w38, w39, w40, w41, w42, w43, w44, w45, w46, w47, w48, w49, w50, w51, w52, w53, w54, w55, w56, w57, w58, w59, w60, w61, w62, w63, w64, w65, w66, w67, w68, w69, w70, w71, w72, w73, w74, w75, w76, w77, .ref a78, w79, w80, w81]))] H := hW
      have hw : r11_ = (if p3 < 0 then 0 else (if 5 < p3 then 0 else 1)) := hw
      by_cases c12_ : p3 < 0
      · have b13_ : (-2147483648) ≤ Int32.toInt p3 ∧ Int32.toInt p3 ≤ (-1) := (by have u0 := zbnd p3; have u1 := (zi_lt _ _).mp c12_; have u2 : (0 : Int32).toInt = 0 := (by decide); omega)
        rw [if_pos c12_] at hw
        subst hw
        refine lv_if_ne (tgt := 18) hx hb dX10_shift_13 (by decide) (fun c14_ => absurd (by decide) c14_) (fun c14_ => ?_)
        refine lv_iconst (v := (-1)) hx hb dX10_shift_16 (by decide) ?_
        exact zret_i (v := (-1)) hx hb hr hlocks hS () (by show _ = _; rw [if_neg c2_, if_neg c6_, if_pos c12_]) (hW.sub [] (by decide) rfl) (Nat.le_of_ble_eq_true rfl) (Nat.le_of_ble_eq_true rfl) dX10_shift_17
      · have b15_ : 0 ≤ Int32.toInt p3 ∧ Int32.toInt p3 ≤ 2147483647 := (by have u0 := zbnd p3; have u1 := (not_congr (zi_lt _ _)).mp c12_; have u2 : (0 : Int32).toInt = 0 := (by decide); omega)
        rw [if_neg c12_] at hw
        by_cases c16_ : 5 < p3
        · have b17_ : 6 ≤ Int32.toInt p3 ∧ Int32.toInt p3 ≤ 2147483647 := (by have u0 := b15_; have u1 := (zi_lt _ _).mp c16_; have u2 : (5 : Int32).toInt = 5 := (by decide); omega)
          rw [if_pos c16_] at hw
          subst hw
          refine lv_if_ne (tgt := 18) hx hb dX10_shift_13 (by decide) (fun c18_ => absurd (by decide) c18_) (fun c18_ => ?_)
          refine lv_iconst (v := (-1)) hx hb dX10_shift_16 (by decide) ?_
          exact zret_i (v := (-1)) hx hb hr hlocks hS () (by show _ = _; rw [if_neg c2_, if_neg c6_, if_neg c12_, if_pos c16_]) (hW.sub [] (by decide) rfl) (Nat.le_of_ble_eq_true rfl) (Nat.le_of_ble_eq_true rfl) dX10_shift_17
        · have b19_ : 0 ≤ Int32.toInt p3 ∧ Int32.toInt p3 ≤ 5 := (by have u0 := b15_; have u1 := (not_congr (zi_lt _ _)).mp c16_; have u2 : (5 : Int32).toInt = 5 := (by decide); omega)
          rw [if_neg c16_] at hw
          subst hw
          refine lv_if_ne (tgt := 18) hx hb dX10_shift_13 (by decide) (fun c20_ => ?_) (fun c20_ => absurd c20_ (by decide))
          refine lv_aload_n hx hb dX10_shift_18 rfl (lv_at hl 0 rfl) ?_
          refine zget hx hb ht inlX10 hown hK hW 1 rfl rfl 72 (by decide) zm_212 rfl dX10_shift_19 ?_
          refine lv_iload_n hx hb dX10_shift_22 rfl (lv_at hl 1 rfl) ?_
          by_cases c21_ : p1 = 0
          · have b22_ : 0 ≤ Int32.toInt p1 ∧ Int32.toInt p1 ≤ 0 := (by have u0 := b9_; have u1 := (zi_eq _ _).mp c21_; have u2 : (0 : Int32).toInt = 0 := (by decide); omega)
            refine ztop (w := .int 0) (congrArg Value.int c21_) ?_
            refine ziald (v := (-1)) hx hb hK hW 0 rfl (by unfold vp_in; decide) rfl dX10_shift_23 ?_
            refine lv_if_lt (tgt := 36) hx hb dX10_shift_24 (by decide) (fun c23_ => ?_) (fun c23_ => absurd (by decide) c23_)
            refine lv_bipush (v := (-11)) hx hb dX10_shift_36 (by decide) ?_
            exact zret_i (v := (-11)) hx hb hr hlocks hS () (by show _ = _; rw [if_neg c2_, if_neg c6_, if_neg c12_, if_neg c16_]) (hW.sub [] (by decide) rfl) (Nat.le_of_ble_eq_true rfl) (Nat.le_of_ble_eq_true rfl) dX10_shift_38
          · have b24_ : 1 ≤ Int32.toInt p1 ∧ Int32.toInt p1 ≤ 5 := (by have u0 := b9_; have u1 := (not_congr (zi_eq _ _)).mp c21_; have u2 : (0 : Int32).toInt = 0 := (by decide); omega)
            by_cases c25_ : p1 = 1
            · have b26_ : 1 ≤ Int32.toInt p1 ∧ Int32.toInt p1 ≤ 1 := (by have u0 := b24_; have u1 := (zi_eq _ _).mp c25_; have u2 : (1 : Int32).toInt = 1 := (by decide); omega)
              refine ztop (w := .int 1) (congrArg Value.int c25_) ?_
              refine ziald (v := (-1)) hx hb hK hW 0 rfl (by unfold vp_in; decide) rfl dX10_shift_23 ?_
              refine lv_if_lt (tgt := 36) hx hb dX10_shift_24 (by decide) (fun c27_ => ?_) (fun c27_ => absurd (by decide) c27_)
              refine lv_bipush (v := (-11)) hx hb dX10_shift_36 (by decide) ?_
              exact zret_i (v := (-11)) hx hb hr hlocks hS () (by show _ = _; rw [if_neg c2_, if_neg c6_, if_neg c12_, if_neg c16_]) (hW.sub [] (by decide) rfl) (Nat.le_of_ble_eq_true rfl) (Nat.le_of_ble_eq_true rfl) dX10_shift_38
            · have b28_ : 2 ≤ Int32.toInt p1 ∧ Int32.toInt p1 ≤ 5 := (by have u0 := b24_; have u1 := (not_congr (zi_eq _ _)).mp c25_; have u2 : (1 : Int32).toInt = 1 := (by decide); omega)
              by_cases c29_ : p1 = 2
              · have b30_ : 2 ≤ Int32.toInt p1 ∧ Int32.toInt p1 ≤ 2 := (by have u0 := b28_; have u1 := (zi_eq _ _).mp c29_; have u2 : (2 : Int32).toInt = 2 := (by decide); omega)
                refine ztop (w := .int 2) (congrArg Value.int c29_) ?_
                refine ziald (v := (-1)) hx hb hK hW 0 rfl (by unfold vp_in; decide) rfl dX10_shift_23 ?_
                refine lv_if_lt (tgt := 36) hx hb dX10_shift_24 (by decide) (fun c31_ => ?_) (fun c31_ => absurd (by decide) c31_)
                refine lv_bipush (v := (-11)) hx hb dX10_shift_36 (by decide) ?_
                exact zret_i (v := (-11)) hx hb hr hlocks hS () (by show _ = _; rw [if_neg c2_, if_neg c6_, if_neg c12_, if_neg c16_]) (hW.sub [] (by decide) rfl) (Nat.le_of_ble_eq_true rfl) (Nat.le_of_ble_eq_true rfl) dX10_shift_38
              · have b32_ : 3 ≤ Int32.toInt p1 ∧ Int32.toInt p1 ≤ 5 := (by have u0 := b28_; have u1 := (not_congr (zi_eq _ _)).mp c29_; have u2 : (2 : Int32).toInt = 2 := (by decide); omega)
                by_cases c33_ : p1 = 3
                · have b34_ : 3 ≤ Int32.toInt p1 ∧ Int32.toInt p1 ≤ 3 := (by have u0 := b32_; have u1 := (zi_eq _ _).mp c33_; have u2 : (3 : Int32).toInt = 3 := (by decide); omega)
                  refine ztop (w := .int 3) (congrArg Value.int c33_) ?_
                  refine ziald (v := (-1)) hx hb hK hW 0 rfl (by unfold vp_in; decide) rfl dX10_shift_23 ?_
                  refine lv_if_lt (tgt := 36) hx hb dX10_shift_24 (by decide) (fun c35_ => ?_) (fun c35_ => absurd (by decide) c35_)
                  refine lv_bipush (v := (-11)) hx hb dX10_shift_36 (by decide) ?_
                  exact zret_i (v := (-11)) hx hb hr hlocks hS () (by show _ = _; rw [if_neg c2_, if_neg c6_, if_neg c12_, if_neg c16_]) (hW.sub [] (by decide) rfl) (Nat.le_of_ble_eq_true rfl) (Nat.le_of_ble_eq_true rfl) dX10_shift_38
                · have b36_ : 4 ≤ Int32.toInt p1 ∧ Int32.toInt p1 ≤ 5 := (by have u0 := b32_; have u1 := (not_congr (zi_eq _ _)).mp c33_; have u2 : (3 : Int32).toInt = 3 := (by decide); omega)
                  by_cases c37_ : p1 = 4
                  · have b38_ : 4 ≤ Int32.toInt p1 ∧ Int32.toInt p1 ≤ 4 := (by have u0 := b36_; have u1 := (zi_eq _ _).mp c37_; have u2 : (4 : Int32).toInt = 4 := (by decide); omega)
                    refine ztop (w := .int 4) (congrArg Value.int c37_) ?_
                    refine ziald (v := (-1)) hx hb hK hW 0 rfl (by unfold vp_in; decide) rfl dX10_shift_23 ?_
                    refine lv_if_lt (tgt := 36) hx hb dX10_shift_24 (by decide) (fun c39_ => ?_) (fun c39_ => absurd (by decide) c39_)
                    refine lv_bipush (v := (-11)) hx hb dX10_shift_36 (by decide) ?_
                    exact zret_i (v := (-11)) hx hb hr hlocks hS () (by show _ = _; rw [if_neg c2_, if_neg c6_, if_neg c12_, if_neg c16_]) (hW.sub [] (by decide) rfl) (Nat.le_of_ble_eq_true rfl) (Nat.le_of_ble_eq_true rfl) dX10_shift_38
                  · have b40_ : 5 ≤ Int32.toInt p1 ∧ Int32.toInt p1 ≤ 5 := (by have u0 := b36_; have u1 := (not_congr (zi_eq _ _)).mp c37_; have u2 : (4 : Int32).toInt = 4 := (by decide); omega)
                    refine ztop (w := .int 5) (congrArg Value.int ((zi_eq _ _).mpr (by have u0 := b40_; have u1 : (5 : Int32).toInt = 5 := (by decide); omega))) ?_
                    refine ziald (v := (-1)) hx hb hK hW 0 rfl (by unfold vp_in; decide) rfl dX10_shift_23 ?_
                    refine lv_if_lt (tgt := 36) hx hb dX10_shift_24 (by decide) (fun c41_ => ?_) (fun c41_ => absurd (by decide) c41_)
                    refine lv_bipush (v := (-11)) hx hb dX10_shift_36 (by decide) ?_
                    exact zret_i (v := (-11)) hx hb hr hlocks hS () (by show _ = _; rw [if_neg c2_, if_neg c6_, if_neg c12_, if_neg c16_]) (hW.sub [] (by decide) rfl) (Nat.le_of_ble_eq_true rfl) (Nat.le_of_ble_eq_true rfl) dX10_shift_38
