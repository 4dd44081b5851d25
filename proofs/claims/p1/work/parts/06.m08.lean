theorem dX10_item_0 : decode cX10_item 0 = .ok (.aload_n 0, 1) := by decide +kernel
theorem dX10_item_1 : decode cX10_item 1 = .ok (.iload_n 1, 1) := by decide +kernel
theorem dX10_item_10 : decode cX10_item 10 = .ok (.aload_n 0, 1) := by decide +kernel
theorem dX10_item_11 : decode cX10_item 11 = .ok (.getfield 229, 3) := by decide +kernel
theorem dX10_item_14 : decode cX10_item 14 = .ok (.iload_n 1, 1) := by decide +kernel
theorem dX10_item_15 : decode cX10_item 15 = .ok (.iaload, 1) := by decide +kernel
theorem dX10_item_16 : decode cX10_item 16 = .ok (.ifCond .ge 6, 3) := by decide +kernel
theorem dX10_item_19 : decode cX10_item 19 = .ok (.bipush (-11), 2) := by decide +kernel
theorem dX10_item_2 : decode cX10_item 2 = .ok (.invokevirtual 399, 3) := by decide +kernel
theorem dX10_item_21 : decode cX10_item 21 = .ok (.ireturn, 1) := by decide +kernel
theorem dX10_item_5 : decode cX10_item 5 = .ok (.ifCond .ne 5, 3) := by decide +kernel
theorem dX10_item_8 : decode cX10_item 8 = .ok (.iconst (-1), 1) := by decide +kernel
theorem dX10_item_9 : decode cX10_item 9 = .ok (.ireturn, 1) := by decide +kernel
theorem dX10_read_0 : decode cX10_read 0 = .ok (.aload_n 0, 1) := by decide +kernel
theorem dX10_read_1 : decode cX10_read 1 = .ok (.iload_n 1, 1) := by decide +kernel
theorem dX10_read_12 : decode cX10_read 12 = .ok (.iload_n 1, 1) := by decide +kernel
theorem dX10_read_13 : decode cX10_read 13 = .ok (.iaload, 1) := by decide +kernel
theorem dX10_read_14 : decode cX10_read 14 = .ok (.ifCond .lt 20, 3) := by decide +kernel
theorem dX10_read_2 : decode cX10_read 2 = .ok (.invokevirtual 399, 3) := by decide +kernel
theorem dX10_read_34 : decode cX10_read 34 = .ok (.ldc2_w 393, 3) := by decide +kernel
theorem dX10_read_37 : decode cX10_read 37 = .ok (.goto 14, 3) := by decide +kernel
theorem dX10_read_5 : decode cX10_read 5 = .ok (.ifCond .eq 29, 3) := by decide +kernel
theorem dX10_read_51 : decode cX10_read 51 = .ok (.lreturn, 1) := by decide +kernel
theorem dX10_read_8 : decode cX10_read 8 = .ok (.aload_n 0, 1) := by decide +kernel
theorem dX10_read_9 : decode cX10_read 9 = .ok (.getfield 229, 3) := by decide +kernel
theorem dX10_tape_0 : decode cX10_tape 0 = .ok (.aload_n 0, 1) := by decide +kernel
theorem dX10_tape_1 : decode cX10_tape 1 = .ok (.iload_n 1, 1) := by decide +kernel
theorem dX10_tape_10 : decode cX10_tape 10 = .ok (.aload_n 0, 1) := by decide +kernel
theorem dX10_tape_11 : decode cX10_tape 11 = .ok (.iload_n 2, 1) := by decide +kernel
theorem dX10_tape_12 : decode cX10_tape 12 = .ok (.iconst (-1), 1) := by decide +kernel
theorem dX10_tape_13 : decode cX10_tape 13 = .ok (.iconst 4, 1) := by decide +kernel
theorem dX10_tape_14 : decode cX10_tape 14 = .ok (.invokevirtual 242, 3) := by decide +kernel
theorem dX10_tape_17 : decode cX10_tape 17 = .ok (.ifCond .eq 13, 3) := by decide +kernel
theorem dX10_tape_2 : decode cX10_tape 2 = .ok (.invokevirtual 399, 3) := by decide +kernel
theorem dX10_tape_20 : decode cX10_tape 20 = .ok (.iload_n 2, 1) := by decide +kernel
theorem dX10_tape_21 : decode cX10_tape 21 = .ok (.ifCond .lt 12, 3) := by decide +kernel
theorem dX10_tape_24 : decode cX10_tape 24 = .ok (.iload_n 3, 1) := by decide +kernel
theorem dX10_tape_25 : decode cX10_tape 25 = .ok (.bipush 60, 2) := by decide +kernel
theorem dX10_tape_27 : decode cX10_tape 27 = .ok (.if_icmp .le 6, 3) := by decide +kernel
theorem dX10_tape_30 : decode cX10_tape 30 = .ok (.bipush (-2), 2) := by decide +kernel
theorem dX10_tape_32 : decode cX10_tape 32 = .ok (.ireturn, 1) := by decide +kernel
theorem dX10_tape_33 : decode cX10_tape 33 = .ok (.iload_n 2, 1) := by decide +kernel
theorem dX10_tape_34 : decode cX10_tape 34 = .ok (.ifCond .lt 10, 3) := by decide +kernel
theorem dX10_tape_37 : decode cX10_tape 37 = .ok (.iload_n 3, 1) := by decide +kernel
theorem dX10_tape_38 : decode cX10_tape 38 = .ok (.ifCond .ge 6, 3) := by decide +kernel
theorem dX10_tape_41 : decode cX10_tape 41 = .ok (.bipush (-14), 2) := by decide +kernel
theorem dX10_tape_43 : decode cX10_tape 43 = .ok (.ireturn, 1) := by decide +kernel
theorem dX10_tape_44 : decode cX10_tape 44 = .ok (.aload_n 0, 1) := by decide +kernel
theorem dX10_tape_45 : decode cX10_tape 45 = .ok (.getfield 229, 3) := by decide +kernel
theorem dX10_tape_48 : decode cX10_tape 48 = .ok (.iload_n 1, 1) := by decide +kernel
theorem dX10_tape_49 : decode cX10_tape 49 = .ok (.iload_n 2, 1) := by decide +kernel
theorem dX10_tape_5 : decode cX10_tape 5 = .ok (.ifCond .ne 5, 3) := by decide +kernel
theorem dX10_tape_50 : decode cX10_tape 50 = .ok (.iastore, 1) := by decide +kernel
theorem dX10_tape_51 : decode cX10_tape 51 = .ok (.aload_n 0, 1) := by decide +kernel
theorem dX10_tape_52 : decode cX10_tape 52 = .ok (.getfield 232, 3) := by decide +kernel
theorem dX10_tape_55 : decode cX10_tape 55 = .ok (.iload_n 1, 1) := by decide +kernel
theorem dX10_tape_56 : decode cX10_tape 56 = .ok (.iload_n 2, 1) := by decide +kernel
theorem dX10_tape_57 : decode cX10_tape 57 = .ok (.ifCond .ge 7, 3) := by decide +kernel
theorem dX10_tape_60 : decode cX10_tape 60 = .ok (.iconst 0, 1) := by decide +kernel
theorem dX10_tape_61 : decode cX10_tape 61 = .ok (.goto 4, 3) := by decide +kernel
theorem dX10_tape_64 : decode cX10_tape 64 = .ok (.iload_n 3, 1) := by decide +kernel
theorem dX10_tape_65 : decode cX10_tape 65 = .ok (.iastore, 1) := by decide +kernel
theorem dX10_tape_66 : decode cX10_tape 66 = .ok (.iconst 0, 1) := by decide +kernel
theorem dX10_tape_67 : decode cX10_tape 67 = .ok (.istore 4, 2) := by decide +kernel
theorem dX10_tape_69 : decode cX10_tape 69 = .ok (.iload 4, 2) := by decide +kernel
theorem dX10_tape_71 : decode cX10_tape 71 = .ok (.bipush 60, 2) := by decide +kernel
theorem dX10_tape_73 : decode cX10_tape 73 = .ok (.if_icmp .ge 22, 3) := by decide +kernel
theorem dX10_tape_76 : decode cX10_tape 76 = .ok (.aload_n 0, 1) := by decide +kernel
theorem dX10_tape_77 : decode cX10_tape 77 = .ok (.getfield 235, 3) := by decide +kernel
theorem dX10_tape_8 : decode cX10_tape 8 = .ok (.iconst (-1), 1) := by decide +kernel
theorem dX10_tape_80 : decode cX10_tape 80 = .ok (.bipush 60, 2) := by decide +kernel
theorem dX10_tape_82 : decode cX10_tape 82 = .ok (.iload_n 1, 1) := by decide +kernel
theorem dX10_tape_83 : decode cX10_tape 83 = .ok (.imul, 1) := by decide +kernel
theorem dX10_tape_84 : decode cX10_tape 84 = .ok (.iload 4, 2) := by decide +kernel
theorem dX10_tape_86 : decode cX10_tape 86 = .ok (.iadd, 1) := by decide +kernel
theorem dX10_tape_87 : decode cX10_tape 87 = .ok (.lconst 0, 1) := by decide +kernel
theorem dX10_tape_88 : decode cX10_tape 88 = .ok (.lastore, 1) := by decide +kernel
theorem dX10_tape_89 : decode cX10_tape 89 = .ok (.iinc 4 1, 3) := by decide +kernel
theorem dX10_tape_9 : decode cX10_tape 9 = .ok (.ireturn, 1) := by decide +kernel
theorem dX10_tape_92 : decode cX10_tape 92 = .ok (.goto (-23), 3) := by decide +kernel
theorem dX10_tape_95 : decode cX10_tape 95 = .ok (.iconst 1, 1) := by decide +kernel
theorem dX10_tape_96 : decode cX10_tape 96 = .ok (.ireturn, 1) := by decide +kernel
theorem dX8_hasPlace_0 : decode cX8_hasPlace 0 = .ok (.iload_n 1, 1) := by decide +kernel
theorem dX8_hasPlace_1 : decode cX8_hasPlace 1 = .ok (.ifCond .lt 15, 3) := by decide +kernel
theorem dX8_hasPlace_16 : decode cX8_hasPlace 16 = .ok (.iconst 0, 1) := by decide +kernel
theorem dX8_hasPlace_17 : decode cX8_hasPlace 17 = .ok (.ireturn, 1) := by decide +kernel
theorem dX8_hasPlace_4 : decode cX8_hasPlace 4 = .ok (.iload_n 1, 1) := by decide +kernel
theorem dX8_hasPlace_5 : decode cX8_hasPlace 5 = .ok (.aload_n 0, 1) := by decide +kernel
theorem dX8_hasPlace_6 : decode cX8_hasPlace 6 = .ok (.getfield 13, 3) := by decide +kernel
theorem dX8_hasPlace_9 : decode cX8_hasPlace 9 = .ok (.if_icmp .ge 7, 3) := by decide +kernel
theorem dX9_item_0 : decode cX9_item 0 = .ok (.iload_n 1, 1) := by decide +kernel
theorem dX9_item_1 : decode cX9_item 1 = .ok (.invokestatic 271, 3) := by decide +kernel
theorem dX9_item_10 : decode cX9_item 10 = .ok (.getfield 60, 3) := by decide +kernel
theorem dX9_item_13 : decode cX9_item 13 = .ok (.iload_n 1, 1) := by decide +kernel
theorem dX9_item_14 : decode cX9_item 14 = .ok (.aaload, 1) := by decide +kernel
theorem dX9_item_15 : decode cX9_item 15 = .ok (.astore 5, 2) := by decide +kernel
theorem dX9_item_17 : decode cX9_item 17 = .ok (.aload 5, 2) := by decide +kernel
theorem dX9_item_19 : decode cX9_item 19 = .ok (.invokevirtual 274, 3) := by decide +kernel
theorem dX9_item_22 : decode cX9_item 22 = .ok (.ifCond .eq 6, 3) := by decide +kernel
theorem dX9_item_25 : decode cX9_item 25 = .ok (.bipush (-11), 2) := by decide +kernel
theorem dX9_item_27 : decode cX9_item 27 = .ok (.ireturn, 1) := by decide +kernel
theorem dX9_item_4 : decode cX9_item 4 = .ok (.ifCond .ne 5, 3) := by decide +kernel
theorem dX9_item_7 : decode cX9_item 7 = .ok (.iconst (-1), 1) := by decide +kernel
theorem dX9_item_8 : decode cX9_item 8 = .ok (.ireturn, 1) := by decide +kernel
theorem dX9_item_9 : decode cX9_item 9 = .ok (.aload_n 0, 1) := by decide +kernel
theorem dX9_read_0 : decode cX9_read 0 = .ok (.iload_n 1, 1) := by decide +kernel
theorem dX9_read_1 : decode cX9_read 1 = .ok (.invokestatic 271, 3) := by decide +kernel
theorem dX9_read_11 : decode cX9_read 11 = .ok (.iload_n 1, 1) := by decide +kernel
theorem dX9_read_12 : decode cX9_read 12 = .ok (.aaload, 1) := by decide +kernel
theorem dX9_read_13 : decode cX9_read 13 = .ok (.iload_n 2, 1) := by decide +kernel
theorem dX9_read_14 : decode cX9_read 14 = .ok (.invokevirtual 305, 3) := by decide +kernel
theorem dX9_read_17 : decode cX9_read 17 = .ok (.ifCond .ne 7, 3) := by decide +kernel
theorem dX9_read_20 : decode cX9_read 20 = .ok (.ldc2_w 259, 3) := by decide +kernel
theorem dX9_read_23 : decode cX9_read 23 = .ok (.lreturn, 1) := by decide +kernel
theorem dX9_read_4 : decode cX9_read 4 = .ok (.ifCond .eq 16, 3) := by decide +kernel
theorem dX9_read_7 : decode cX9_read 7 = .ok (.aload_n 0, 1) := by decide +kernel
theorem dX9_read_8 : decode cX9_read 8 = .ok (.getfield 60, 3) := by decide +kernel
theorem dX9_tape_0 : decode cX9_tape 0 = .ok (.iload_n 1, 1) := by decide +kernel
theorem dX9_tape_1 : decode cX9_tape 1 = .ok (.invokestatic 271, 3) := by decide +kernel
theorem dX9_tape_10 : decode cX9_tape 10 = .ok (.iconst (-1), 1) := by decide +kernel
theorem dX9_tape_11 : decode cX9_tape 11 = .ok (.if_icmp .ne 16, 3) := by decide +kernel
theorem dX9_tape_14 : decode cX9_tape 14 = .ok (.aload_n 0, 1) := by decide +kernel
theorem dX9_tape_15 : decode cX9_tape 15 = .ok (.getfield 60, 3) := by decide +kernel
theorem dX9_tape_18 : decode cX9_tape 18 = .ok (.iload_n 1, 1) := by decide +kernel
theorem dX9_tape_19 : decode cX9_tape 19 = .ok (.aaload, 1) := by decide +kernel
theorem dX9_tape_20 : decode cX9_tape 20 = .ok (.iconst (-1), 1) := by decide +kernel
theorem dX9_tape_21 : decode cX9_tape 21 = .ok (.iconst 0, 1) := by decide +kernel
theorem dX9_tape_22 : decode cX9_tape 22 = .ok (.invokevirtual 301, 3) := by decide +kernel
theorem dX9_tape_25 : decode cX9_tape 25 = .ok (.iconst 1, 1) := by decide +kernel
theorem dX9_tape_26 : decode cX9_tape 26 = .ok (.ireturn, 1) := by decide +kernel
theorem dX9_tape_27 : decode cX9_tape 27 = .ok (.iload_n 2, 1) := by decide +kernel
theorem dX9_tape_28 : decode cX9_tape 28 = .ok (.iconst 0, 1) := by decide +kernel
theorem dX9_tape_29 : decode cX9_tape 29 = .ok (.iconst 4, 1) := by decide +kernel
theorem dX9_tape_30 : decode cX9_tape 30 = .ok (.invokestatic 68, 3) := by decide +kernel
theorem dX9_tape_33 : decode cX9_tape 33 = .ok (.ifCond .eq 9, 3) := by decide +kernel
theorem dX9_tape_36 : decode cX9_tape 36 = .ok (.iload_n 3, 1) := by decide +kernel
theorem dX9_tape_37 : decode cX9_tape 37 = .ok (.bipush 60, 2) := by decide +kernel
theorem dX9_tape_39 : decode cX9_tape 39 = .ok (.if_icmp .le 6, 3) := by decide +kernel
theorem dX9_tape_4 : decode cX9_tape 4 = .ok (.ifCond .ne 5, 3) := by decide +kernel
theorem dX9_tape_42 : decode cX9_tape 42 = .ok (.bipush (-2), 2) := by decide +kernel
theorem dX9_tape_44 : decode cX9_tape 44 = .ok (.ireturn, 1) := by decide +kernel
theorem dX9_tape_45 : decode cX9_tape 45 = .ok (.iload_n 3, 1) := by decide +kernel
theorem dX9_tape_46 : decode cX9_tape 46 = .ok (.ifCond .ge 6, 3) := by decide +kernel
theorem dX9_tape_49 : decode cX9_tape 49 = .ok (.bipush (-14), 2) := by decide +kernel
theorem dX9_tape_51 : decode cX9_tape 51 = .ok (.ireturn, 1) := by decide +kernel
theorem dX9_tape_52 : decode cX9_tape 52 = .ok (.aload_n 0, 1) := by decide +kernel
theorem dX9_tape_53 : decode cX9_tape 53 = .ok (.getfield 60, 3) := by decide +kernel
theorem dX9_tape_56 : decode cX9_tape 56 = .ok (.iload_n 1, 1) := by decide +kernel
theorem dX9_tape_57 : decode cX9_tape 57 = .ok (.aaload, 1) := by decide +kernel
theorem dX9_tape_58 : decode cX9_tape 58 = .ok (.iload_n 2, 1) := by decide +kernel
theorem dX9_tape_59 : decode cX9_tape 59 = .ok (.iload_n 3, 1) := by decide +kernel
theorem dX9_tape_60 : decode cX9_tape 60 = .ok (.invokevirtual 301, 3) := by decide +kernel
theorem dX9_tape_63 : decode cX9_tape 63 = .ok (.iconst 1, 1) := by decide +kernel
theorem dX9_tape_64 : decode cX9_tape 64 = .ok (.ireturn, 1) := by decide +kernel
theorem dX9_tape_7 : decode cX9_tape 7 = .ok (.iconst (-1), 1) := by decide +kernel
theorem dX9_tape_8 : decode cX9_tape 8 = .ok (.ireturn, 1) := by decide +kernel
theorem dX9_tape_9 : decode cX9_tape 9 = .ok (.iload_n 2, 1) := by decide +kernel
set_option maxHeartbeats 8000000 in
set_option maxRecDepth 100000 in
theorem zc_X9_tape_0 (l : Launch) (D : va_G) (y : Nat → ClassId) (a0 : Nat) (p1 : Int32) (p2 : Int32) (p3 : Int32) (w4 : Value) (w5 : Value) (w6 : Value) (w7 : Value) (w8 : Value) (w9 : Value) (w10 : Value) (w11 : Value) (a12 : Nat) (a13 : Nat) (a14 : Nat) (a15 : Nat) (a16 : Nat) (a17 : Nat) (a18 : Nat) (a19 : Nat) (a20 : Nat) (a21 : Nat) (a22 : Nat) (a23 : Nat) (a24 : Nat) : zM l D y yX9_tape (Cond.code yX9_tape cX9_tape 4 (some .int) :: zT) { frames := 2, cells := 0, slots := 0, locals := 44 } [.ref a0, .int p1, .int p2, .int p3] [(a0, .inr (8, [w4, w5, w6, w7, w8, w9, w10, w11, .ref a12])), (a12, .inl (y 5, 6, .inr (.inr (.inr (.inr (va_up (va_up (va_up (va_up (va_up (va_up (fun _ => none) 0 (some a13)) 1 (some a14)) 2 (some a15)) 3 (some a16)) 4 (some a17)) 5 (some a18))))))), (a13, .inr (7, [.int (-1), .int 0, .ref a19])), (a14, .inr (7, [.int (-1), .int 0, .ref a20])), (a15, .inr (7, [.int (-1), .int 0, .ref a21])), (a16, .inr (7, [.int (-1), .int 0, .ref a22])), (a17, .inr (7, [.int (-1), .int 0, .ref a23])), (a18, .inr (7, [.int (-1), .int 0, .ref a24])), (a19, .inl (y 1, 60, .inr (.inl (fun _ => 0)))), (a20, .inl (y 1, 60, .inr (.inl (fun _ => 0)))), (a21, .inl (y 1, 60, .inr (.inl (fun _ => 0)))), (a22, .inl (y 1, 60, .inr (.inl (fun _ => 0)))), (a23, .inl (y 1, 60, .inr (.inl (fun _ => 0)))), (a24, .inl (y 1, 60, .inr (.inl (fun _ => 0))))] (zQi (S := Unit) D (fun r_ _ => r_ = (if p1 < 0 then (-1) else (if 5 < p1 then (-1) else (if p2 = (-1) then 1 else (if p2 < 0 then (-2) else (if 4 < p2 then (-2) else (if p3 ≤ 60 then (if 0 ≤ p3 then 1 else (-14)) else (-2)))))))) (fun _ => [])) := by
  refine zent (cc := cX9_tape) (maxL := 4) (ret := (some .int)) (by decide) (Nat.le_of_ble_eq_true rfl) ?_
  intro p e s m below meth c A H locs ls hx hb hml hr ht hown hlocks hin hA hK hE hS hW hl
  have hown : s.vm.findClass RX9 = some m.cls := hown
  have hW : zPD D A [(a0, .inr (8, [w4, w5, w6, w7, w8, w9, w10, w11, .ref a12])), (a12, .inl (y 5, 6, .inr (.inr (.inr (.inr (va_up (va_up (va_up (va_up (va_up (va_up (fun _ => none) 0 (some a13)) 1 (some a14)) 2 (some a15)) 3 (some a16)) 4 (some a17)) 5 (some a18))))))), (a13, .inr (7, [.int (-1), .int 0, .ref a19])), (a14, .inr (7, [.int (-1), .int 0, .ref a20])), (a15, .inr (7, [.int (-1), .int 0, .ref a21])), (a16, .inr (7, [.int (-1), .int 0, .ref a22])), (a17, .inr (7, [.int (-1), .int 0, .ref a23])), (a18, .inr (7, [.int (-1), .int 0, .ref a24])), (a19, .inl (y 1, 60, .inr (.inl (fun _ => 0)))), (a20, .inl (y 1, 60, .inr (.inl (fun _ => 0)))), (a21, .inl (y 1, 60, .inr (.inl (fun _ => 0)))), (a22, .inl (y 1, 60, .inr (.inl (fun _ => 0)))), (a23, .inl (y 1, 60, .inr (.inl (fun _ => 0)))), (a24, .inl (y 1, 60, .inr (.inl (fun _ => 0))))] H := hW
  have hl : lv_has ls 4 [(0, .ref a0), (1, .int p1), (2, .int p2), (3, .int p3)] := hl
  refine lv_iload_n hx hb dX9_tape_0 rfl (lv_at hl 1 rfl) ?_
  refine zgo0_i (zrunS (As := [.int p1]) (rest := []) ⟨hx, hb, hml, hown, ht⟩ (zc_X9_isTape_0 l D y p1) (va_cwS 1 ht (zgS zm_1086 zm_1087 zm_2 zm_1088) rfl rfl rfl (by decide +kernel) ⟨(Nat.le_of_ble_eq_true rfl), (Nat.le_of_ble_eq_true rfl)⟩) hK hE hS hA hW [] (by decide) rfl rfl hl.1 rfl (Nat.le_of_ble_eq_true rfl) dX9_tape_1 (Nat.le_of_ble_eq_true rfl) (Nat.le_of_ble_eq_true rfl)) hS hA hW (fun r1_ u H locs hw hW hS => ?_)
  have hw : r1_ = (if p1 < 0 then 0 else (if 5 < p1 then 0 else 1)) := hw
  by_cases c2_ : p1 < 0
  · have b3_ : (-2147483648) ≤ Int32.toInt p1 ∧ Int32.toInt p1 ≤ (-1) := (by have u0 := zbnd p1; have u1 := (zi_lt _ _).mp c2_; have u2 : (0 : Int32).toInt = 0 := (by decide); omega)
    rw [if_pos c2_] at hw
    subst hw
    refine lv_if_ne (tgt := 9) hx hb dX9_tape_4 (by decide) (fun c4_ => absurd (by decide) c4_) (fun c4_ => ?_)
    refine lv_iconst (v := (-1)) hx hb dX9_tape_7 (by decide) ?_
    exact zret_i (v := (-1)) hx hb hr hlocks hS () (by show _ = _; rw [if_pos c2_]) (hW.sub [] (by decide) rfl) (Nat.le_of_ble_eq_true rfl) (Nat.le_of_ble_eq_true rfl) dX9_tape_8
  · have b5_ : 0 ≤ Int32.toInt p1 ∧ Int32.toInt p1 ≤ 2147483647 := (by have u0 := zbnd p1; have u1 := (not_congr (zi_lt _ _)).mp c2_; have u2 : (0 : Int32).toInt = 0 := (by decide); omega)
    rw [if_neg c2_] at hw
    by_cases c6_ : 5 < p1
    · have b7_ : 6 ≤ Int32.toInt p1 ∧ Int32.toInt p1 ≤ 2147483647 := (by have u0 := b5_; have u1 := (zi_lt _ _).mp c6_; have u2 : (5 : Int32).toInt = 5 := (by decide); omega)
      rw [if_pos c6_] at hw
      subst hw
      refine lv_if_ne (tgt := 9) hx hb dX9_tape_4 (by decide) (fun c8_ => absurd (by decide) c8_) (fun c8_ => ?_)
      refine lv_iconst (v := (-1)) hx hb dX9_tape_7 (by decide) ?_
      exact zret_i (v := (-1)) hx hb hr hlocks hS () (by show _ = _; rw [if_neg c2_, if_pos c6_]) (hW.sub [] (by decide) rfl) (Nat.le_of_ble_eq_true rfl) (Nat.le_of_ble_eq_true rfl) dX9_tape_8
    · have b9_ : 0 ≤ Int32.toInt p1 ∧ Int32.toInt p1 ≤ 5 := (by have u0 := b5_; have u1 := (not_congr (zi_lt _ _)).mp c6_; have u2 : (5 : Int32).toInt = 5 := (by decide); omega)
      rw [if_neg c6_] at hw
      subst hw
      refine lv_if_ne (tgt := 9) hx hb dX9_tape_4 (by decide) (fun c10_ => ?_) (fun c10_ => absurd c10_ (by decide))
      refine lv_iload_n hx hb dX9_tape_9 rfl (lv_at hl 2 rfl) ?_
      refine lv_iconst (v := (-1)) hx hb dX9_tape_10 (by decide) ?_
      refine lv_icmp_ne (tgt := 27) hx hb dX9_tape_11 (by decide) (fun c11_ => ?_) (fun c11_ => ?_)
      · have b12_ : (-2147483648) ≤ Int32.toInt p2 ∧ Int32.toInt p2 ≤ 2147483647 := (by have u0 := zbnd p2; have u1 := (not_congr (zi_eq _ _)).mp c11_; have u2 : ((-1) : Int32).toInt = -1 := (by decide); omega)
        refine lv_iload_n hx hb dX9_tape_27 rfl (lv_at hl 2 rfl) ?_
        refine lv_iconst (v := 0) hx hb dX9_tape_28 (by decide) ?_
        refine lv_iconst (v := 4) hx hb dX9_tape_29 (by decide) ?_
        refine zgo0_i (zrunS (As := [.int p2, .int 0, .int 4]) (rest := []) ⟨hx, hb, hml, hown, ht⟩ (zc_X9_within_3 l D y p2) (va_cwS 3 ht (zgS zm_222 zm_223 zm_2 zm_224) rfl rfl rfl (by decide +kernel) ⟨(Nat.le_of_ble_eq_true rfl), (Nat.le_of_ble_eq_true rfl)⟩) hK hE hS hA hW [] (by decide) rfl rfl hl.1 rfl (Nat.le_of_ble_eq_true rfl) dX9_tape_30 (Nat.le_of_ble_eq_true rfl) (Nat.le_of_ble_eq_true rfl)) hS hA hW (fun r13_ u H locs hw hW hS => ?_)
        have hw : r13_ = (if p2 < 0 then 0 else (if 4 < p2 then 0 else 1)) := hw
        by_cases c14_ : p2 < 0
        · have b15_ : (-2147483648) ≤ Int32.toInt p2 ∧ Int32.toInt p2 ≤ (-2) := (by have u0 := b12_; have u1 := (zi_lt _ _).mp c14_; have u2 : (0 : Int32).toInt = 0 := (by decide); have v1 := (not_congr (zi_eq _ _)).mp c11_; have w1 : ((-1) : Int32).toInt = -1 := (by decide); omega)
          rw [if_pos c14_] at hw
          subst hw
          refine lv_if_eq (tgt := 42) hx hb dX9_tape_33 (by decide) (fun c16_ => ?_) (fun c16_ => absurd (by decide) c16_)
          refine lv_bipush (v := (-2)) hx hb dX9_tape_42 (by decide) ?_
          exact zret_i (v := (-2)) hx hb hr hlocks hS () (by show _ = _; rw [if_neg c2_, if_neg c6_, if_neg c11_, if_pos c14_]) (hW.sub [] (by decide) rfl) (Nat.le_of_ble_eq_true rfl) (Nat.le_of_ble_eq_true rfl) dX9_tape_44
        · have b17_ : 0 ≤ Int32.toInt p2 ∧ Int32.toInt p2 ≤ 2147483647 := (by have u0 := b12_; have u1 := (not_congr (zi_lt _ _)).mp c14_; have u2 : (0 : Int32).toInt = 0 := (by decide); omega)
          rw [if_neg c14_] at hw
          by_cases c18_ : 4 < p2
          · have b19_ : 5 ≤ Int32.toInt p2 ∧ Int32.toInt p2 ≤ 2147483647 := (by have u0 := b17_; have u1 := (zi_lt _ _).mp c18_; have u2 : (4 : Int32).toInt = 4 := (by decide); omega)
            rw [if_pos c18_] at hw
            subst hw
            refine lv_if_eq (tgt := 42) hx hb dX9_tape_33 (by decide) (fun c20_ => ?_) (fun c20_ => absurd (by decide) c20_)
            refine lv_bipush (v := (-2)) hx hb dX9_tape_42 (by decide) ?_
            exact zret_i (v := (-2)) hx hb hr hlocks hS () (by show _ = _; rw [if_neg c2_, if_neg c6_, if_neg c11_, if_neg c14_, if_pos c18_]) (hW.sub [] (by decide) rfl) (Nat.le_of_ble_eq_true rfl) (Nat.le_of_ble_eq_true rfl) dX9_tape_44
          · have b21_ : 0 ≤ Int32.toInt p2 ∧ Int32.toInt p2 ≤ 4 := (by have u0 := b17_; have u1 := (not_congr (zi_lt _ _)).mp c18_; have u2 : (4 : Int32).toInt = 4 := (by decide); omega)
            rw [if_neg c18_] at hw
            subst hw
            refine lv_if_eq (tgt := 42) hx hb dX9_tape_33 (by decide) (fun c22_ => absurd c22_ (by decide)) (fun c22_ => ?_)
            refine lv_iload_n hx hb dX9_tape_36 rfl (lv_at hl 3 rfl) ?_
            refine lv_bipush (v := 60) hx hb dX9_tape_37 (by decide) ?_
            refine lv_icmp_le (tgt := 45) hx hb dX9_tape_39 (by decide) (fun c23_ => ?_) (fun c23_ => ?_)
            · have b24_ : (-2147483648) ≤ Int32.toInt p3 ∧ Int32.toInt p3 ≤ 60 := (by have u0 := zbnd p3; have u1 := (zi_le _ _).mp c23_; have u2 : (60 : Int32).toInt = 60 := (by decide); omega)
              refine lv_iload_n hx hb dX9_tape_45 rfl (lv_at hl 3 rfl) ?_
              refine lv_if_ge (tgt := 52) hx hb dX9_tape_46 (by decide) (fun c25_ => ?_) (fun c25_ => ?_)
              · have b26_ : 0 ≤ Int32.toInt p3 ∧ Int32.toInt p3 ≤ 60 := (by have u0 := b24_; have u1 := (zi_le _ _).mp c25_; have u2 : (0 : Int32).toInt = 0 := (by decide); omega)
                refine lv_aload_n hx hb dX9_tape_52 rfl (lv_at hl 0 rfl) ?_
                refine zget hx hb ht inlX9 hown hK hW 0 rfl rfl 8 (by decide) zm_35 rfl dX9_tape_53 ?_
                refine lv_iload_n hx hb dX9_tape_56 rfl (lv_at hl 1 rfl) ?_
                by_cases c27_ : p1 = 0
                · have b28_ : 0 ≤ Int32.toInt p1 ∧ Int32.toInt p1 ≤ 0 := (by have u0 := b9_; have u1 := (zi_eq _ _).mp c27_; have u2 : (0 : Int32).toInt = 0 := (by decide); omega)
                  refine ztop (w := .int 0) (congrArg Value.int c27_) ?_
                  refine zaald (v := .ref a13) hx hb hK hW 1 5 rfl rfl (by unfold vp_in; decide) rfl dX9_tape_57 ?_
                  refine lv_iload_n hx hb dX9_tape_58 rfl (lv_at hl 2 rfl) ?_
                  refine lv_iload_n hx hb dX9_tape_59 rfl (lv_at hl 3 rfl) ?_
                  refine zgo_v (wr := [(a0, .inr (8, [w4, w5, w6, w7, w8, w9, w10, w11, .ref a12])), (a12, .inl (y 5, 6, .inr (.inr (.inr (.inr (va_up (va_up (va_up (va_up (va_up (va_up (fun _ => none) 0 (some a13)) 1 (some a14)) 2 (some a15)) 3 (some a16)) 4 (some a17)) 5 (some a18))))))), (a14, .inr (7, [.int (-1), .int 0, .ref a20])), (a15, .inr (7, [.int (-1), .int 0, .ref a21])), (a16, .inr (7, [.int (-1), .int 0, .ref a22])), (a17, .inr (7, [.int (-1), .int 0, .ref a23])), (a18, .inr (7, [.int (-1), .int 0, .ref a24])), (a20, .inl (y 1, 60, .inr (.inl (fun _ => 0)))), (a21, .inl (y 1, 60, .inr (.inl (fun _ => 0)))), (a22, .inl (y 1, 60, .inr (.inl (fun _ => 0)))), (a23, .inl (y 1, 60, .inr (.inl (fun _ => 0)))), (a24, .inl (y 1, 60, .inr (.inl (fun _ => 0))))]) (zrunV (As := [.int p2, .int p3]) (rest := []) ⟨hx, hb, hml, hown, ht⟩ (zc_X8_become_0 l D y a13 p2 p3 a19 b21_ b26_) (cwV 2 ht (zgV zm_1227 zm_1228 zm_1229 zm_39 zm_1230) rfl rfl rfl (by decide +kernel) ⟨(Nat.le_of_ble_eq_true rfl), (Nat.le_of_ble_eq_true rfl)⟩) hK hE hS hA hW [2, 8] (by decide) rfl 0 rfl rfl rfl rfl hl.1 rfl (Nat.le_of_ble_eq_true rfl) dX9_tape_60 (Nat.le_of_ble_eq_true rfl) (Nat.le_of_ble_eq_true rfl)) hS hA hW [2, 8] [0, 1, 3, 4, 5, 6, 7, 9, 10, 11, 12, 13] rfl rfl (by decide) (by decide) (fun u H locs hw hW hS => ?_)
                  have hW : zPD D A [(a0, .inr (8, [w4, w5, w6, w7, w8, w9, w10, w11, .ref a12])), (a12, .inl (y 5, 6, .inr (.inr (.inr (.inr (va_up (va_up (va_up (va_up (va_up (va_up (fun _ => none) 0 (some a13)) 1 (some a14)) 2 (some a15)) 3 (some a16)) 4 (some a17)) 5 (some a18))))))), (a14, .inr (7, [.int (-1), .int 0, .ref a20])), (a15, .inr (7, [.int (-1), .int 0, .ref a21])), (a16, .inr (7, [.int (-1), .int 0, .ref a22])), (a17, .inr (7, [.int (-1), .int 0, .ref a23])), (a18, .inr (7, [.int (-1), .int 0, .ref a24])), (a20, .inl (y 1, 60, .inr (.inl (fun _ => 0)))), (a21, .inl (y 1, 60, .inr (.inl (fun _ => 0)))), (a22, .inl (y 1, 60, .inr (.inl (fun _ => 0)))), (a23, .inl (y 1, 60, .inr (.inl (fun _ => 0)))), (a24, .inl (y 1, 60, .inr (.inl (fun _ => 0)))), (a13, .inr (7, [.int p2, .int p3, .ref a19])), (a19, .inl (y 1, 60, .inr (.inl (fun _ => 0))))] H := hW
                  refine lv_iconst (v := 1) hx hb dX9_tape_63 (by decide) ?_
                  exact zret_i (v := 1) hx hb hr hlocks hS () (by show _ = _; rw [if_neg c2_, if_neg c6_, if_neg c11_, if_neg c14_, if_neg c18_, if_pos c23_, if_pos c25_]) (hW.sub [] (by decide) rfl) (Nat.le_of_ble_eq_true rfl) (Nat.le_of_ble_eq_true rfl) dX9_tape_64
                · have b30_ : 1 ≤ Int32.toInt p1 ∧ Int32.toInt p1 ≤ 5 := (by have u0 := b9_; have u1 := (not_congr (zi_eq _ _)).mp c27_; have u2 : (0 : Int32).toInt = 0 := (by decide); omega)
                  by_cases c31_ : p1 = 1
                  · have b32_ : 1 ≤ Int32.toInt p1 ∧ Int32.toInt p1 ≤ 1 := (by have u0 := b30_; have u1 := (zi_eq _ _).mp c31_; have u2 : (1 : Int32).toInt = 1 := (by decide); omega)
                    refine ztop (w := .int 1) (congrArg Value.int c31_) ?_
                    refine zaald (v := .ref a14) hx hb hK hW 1 5 rfl rfl (by unfold vp_in; decide) rfl dX9_tape_57 ?_
                    refine lv_iload_n hx hb dX9_tape_58 rfl (lv_at hl 2 rfl) ?_
                    refine lv_iload_n hx hb dX9_tape_59 rfl (lv_at hl 3 rfl) ?_
                    refine zgo_v (wr := [(a0, .inr (8, [w4, w5, w6, w7, w8, w9, w10, w11, .ref a12])), (a12, .inl (y 5, 6, .inr (.inr (.inr (.inr (va_up (va_up (va_up (va_up (va_up (va_up (fun _ => none) 0 (some a13)) 1 (some a14)) 2 (some a15)) 3 (some a16)) 4 (some a17)) 5 (some a18))))))), (a13, .inr (7, [.int (-1), .int 0, .ref a19])), (a15, .inr (7, [.int (-1), .int 0, .ref a21])), (a16, .inr (7, [.int (-1), .int 0, .ref a22])), (a17, .inr (7, [.int (-1), .int 0, .ref a23])), (a18, .inr (7, [.int (-1), .int 0, .ref a24])), (a19, .inl (y 1, 60, .inr (.inl (fun _ => 0)))), (a21, .inl (y 1, 60, .inr (.inl (fun _ => 0)))), (a22, .inl (y 1, 60, .inr (.inl (fun _ => 0)))), (a23, .inl (y 1, 60, .inr (.inl (fun _ => 0)))), (a24, .inl (y 1, 60, .inr (.inl (fun _ => 0))))]) (zrunV (As := [.int p2, .int p3]) (rest := []) ⟨hx, hb, hml, hown, ht⟩ (zc_X8_become_0 l D y a14 p2 p3 a20 b21_ b26_) (cwV 2 ht (zgV zm_1227 zm_1228 zm_1229 zm_39 zm_1230) rfl rfl rfl (by decide +kernel) ⟨(Nat.le_of_ble_eq_true rfl), (Nat.le_of_ble_eq_true rfl)⟩) hK hE hS hA hW [3, 9] (by decide) rfl 0 rfl rfl rfl rfl hl.1 rfl (Nat.le_of_ble_eq_true rfl) dX9_tape_60 (Nat.le_of_ble_eq_true rfl) (Nat.le_of_ble_eq_true rfl)) hS hA hW [3, 9] [0, 1, 2, 4, 5, 6, 7, 8, 10, 11, 12, 13] rfl rfl (by decide) (by decide) (fun u H locs hw hW hS => ?_)
                    have hW : zPD D A [(a0, .inr (8, [w4, w5, w6, w7, w8, w9, w10, w11, .ref a12])), (a12, .inl (y 5, 6, .inr (.inr (.inr (.inr (va_up (va_up (va_up (va_up (va_up (va_up (fun _ => none) 0 (some a13)) 1 (some a14)) 2 (some a15)) 3 (some a16)) 4 (some a17)) 5 (some a18))))))), (a13, .inr (7, [.int (-1), .int 0, .ref a19])), (a15, .inr (7, [.int (-1), .int 0, .ref a21])), (a16, .inr (7, [.int (-1), .int 0, .ref a22])), (a17, .inr (7, [.int (-1), .int 0, .ref a23])), (a18, .inr (7, [.int (-1), .int 0, .ref a24])), (a19, .inl (y 1, 60, .inr (.inl (fun _ => 0)))), (a21, .inl (y 1, 60, .inr (.inl (fun _ => 0)))), (a22, .inl (y 1, 60, .inr (.inl (fun _ => 0)))), (a23, .inl (y 1, 60, .inr (.inl (fun _ => 0)))), (a24, .inl (y 1, 60, .inr (.inl (fun _ => 0)))), (a14, .inr (7, [.int p2, .int p3, .ref a20])), (a20, .inl (y 1, 60, .inr (.inl (fun _ => 0))))] H := hW
                    refine lv_iconst (v := 1) hx hb dX9_tape_63 (by decide) ?_
                    exact zret_i (v := 1) hx hb hr hlocks hS () (by show _ = _; rw [if_neg c2_, if_neg c6_, if_neg c11_, if_neg c14_, if_neg c18_, if_pos c23_, if_pos c25_]) (hW.sub [] (by decide) rfl) (Nat.le_of_ble_eq_true rfl) (Nat.le_of_ble_eq_true rfl) dX9_tape_64
                  · have b34_ : 2 ≤ Int32.toInt p1 ∧ Int32.toInt p1 ≤ 5 := (by have u0 := b30_; have u1 := (not_congr (zi_eq _ _)).mp c31_; have u2 : (1 : Int32).toInt = 1 := (by decide); omega)
                    by_cases c35_ : p1 = 2
                    · have b36_ : 2 ≤ Int32.toInt p1 ∧ Int32.toInt p1 ≤ 2 := (by have u0 := b34_; have u1 := (zi_eq _ _).mp c35_; have u2 : (2 : Int32).toInt = 2 := (by decide); omega)
                      refine ztop (w := .int 2) (congrArg Value.int c35_) ?_
                      refine zaald (v := .ref a15) hx hb hK hW 1 5 rfl rfl (by unfold vp_in; decide) rfl dX9_tape_57 ?_
                      refine lv_iload_n hx hb dX9_tape_58 rfl (lv_at hl 2 rfl) ?_
                      refine lv_iload_n hx hb dX9_tape_59 rfl (lv_at hl 3 rfl) ?_
                      refine zgo_v (wr := [(a0, .inr (8, [w4, w5, w6, w7, w8, w9, w10, w11, .ref a12])), (a12, .inl (y 5, 6, .inr (.inr (.inr (.inr (va_up (va_up (va_up (va_up (va_up (va_up (fun _ => none) 0 (some a13)) 1 (some a14)) 2 (some a15)) 3 (some a16)) 4 (some a17)) 5 (some a18))))))), (a13, .inr (7, [.int (-1), .int 0, .ref a19])), (a14, .inr (7, [.int (-1), .int 0, .ref a20])), (a16, .inr (7, [.int (-1), .int 0, .ref a22])), (a17, .inr (7, [.int (-1), .int 0, .ref a23])), (a18, .inr (7, [.int (-1), .int 0, .ref a24])), (a19, .inl (y 1, 60, .inr (.inl (fun _ => 0)))), (a20, .inl (y 1, 60, .inr (.inl (fun _ => 0)))), (a22, .inl (y 1, 60, .inr (.inl (fun _ => 0)))), (a23, .inl (y 1, 60, .inr (.inl (fun _ => 0)))), (a24, .inl (y 1, 60, .inr (.inl (fun _ => 0))))]) (zrunV (As := [.int p2, .int p3]) (rest := []) ⟨hx, hb, hml, hown, ht⟩ (zc_X8_become_0 l D y a15 p2 p3 a21 b21_ b26_) (cwV 2 ht (zgV zm_1227 zm_1228 zm_1229 zm_39 zm_1230) rfl rfl rfl (by decide +kernel) ⟨(Nat.le_of_ble_eq_true rfl), (Nat.le_of_ble_eq_true rfl)⟩) hK hE hS hA hW [4, 10] (by decide) rfl 0 rfl rfl rfl rfl hl.1 rfl (Nat.le_of_ble_eq_true rfl) dX9_tape_60 (Nat.le_of_ble_eq_true rfl) (Nat.le_of_ble_eq_true rfl)) hS hA hW [4, 10] [0, 1, 2, 3, 5, 6, 7, 8, 9, 11, 12, 13] rfl rfl (by decide) (by decide) (fun u H locs hw hW hS => ?_)
                      have hW : zPD D A [(a0, .inr (8, [w4, w5, w6, w7, w8, w9, w10, w11, .ref a12])), (a12, .inl (y 5, 6, .inr (.inr (.inr (.inr (va_up (va_up (va_up (va_up (va_up (va_up (fun _ => none) 0 (some a13)) 1 (some a14)) 2 (some a15)) 3 (some a16)) 4 (some a17)) 5 (some a18))))))), (a13, .inr (7, [.int (-1), .int 0, .ref a19])), (a14, .inr (7, [.int (-1), .int 0, .ref a20])), (a16, .inr (7, [.int (-1), .int 0, .ref a22])), (a17, .inr (7, [.int (-1), .int 0, .ref a23])), (a18, .inr (7, [.int (-1), .int 0, .ref a24])), (a19, .inl (y 1, 60, .inr (.inl (fun _ => 0)))), (a20, .inl (y 1, 60, .inr (.inl (fun _ => 0)))), (a22, .inl (y 1, 60, .inr (.inl (fun _ => 0)))), (a23, .inl (y 1, 60, .inr (.inl (fun _ => 0)))), (a24, .inl (y 1, 60, .inr (.inl (fun _ => 0)))), (a15, .inr (7, [.int p2, .int p3, .ref a21])), (a21, .inl (y 1, 60, .inr (.inl (fun _ => 0))))] H := hW
                      refine lv_iconst (v := 1) hx hb dX9_tape_63 (by decide) ?_
                      exact zret_i (v := 1) hx hb hr hlocks hS () (by show _ = _; rw [if_neg c2_, if_neg c6_, if_neg c11_, if_neg c14_, if_neg c18_, if_pos c23_, if_pos c25_]) (hW.sub [] (by decide) rfl) (Nat.le_of_ble_eq_true rfl) (Nat.le_of_ble_eq_true rfl) dX9_tape_64
                    · have b38_ : 3 ≤ Int32.toInt p1 ∧ Int32.toInt p1 ≤ 5 := (by have u0 := b34_; have u1 := (not_congr (zi_eq _ _)).mp c35_; have u2 : (2 : Int32).toInt = 2 := (by decide); omega)
                      by_cases c39_ : p1 = 3
                      · have b40_ : 3 ≤ Int32.toInt p1 ∧ Int32.toInt p1 ≤ 3 := (by have u0 := b38_; have u1 := (zi_eq _ _).mp c39_; have u2 : (3 : Int32).toInt = 3 := (by decide); omega)
                        refine ztop (w := .int 3) (congrArg Value.int c39_) ?_
                        refine zaald (v := .ref a16) hx hb hK hW 1 5 rfl rfl (by unfold vp_in; decide) rfl dX9_tape_57 ?_
                        refine lv_iload_n hx hb dX9_tape_58 rfl (lv_at hl 2 rfl) ?_
                        refine lv_iload_n hx hb dX9_tape_59 rfl (lv_at hl 3 rfl) ?_
                        refine zgo_v (wr := [(a0, .inr (8, [w4, w5, w6, w7, w8, w9, w10, w11, .ref a12])), (a12, .inl (y 5, 6, .inr (.inr (.inr (.inr (va_up (va_up (va_up (va_up (va_up (va_up (fun _ => none) 0 (some a13)) 1 (some a14)) 2 (some a15)) 3 (some a16)) 4 (some a17)) 5 (some a18))))))), (a13, .inr (7, [.int (-1), .int 0, .ref a19])), (a14, .inr (7, [.int (-1), .int 0, .ref a20])), (a15, .inr (7, [.int (-1), .int 0, .ref a21])), (a17, .inr (7, [.int (-1), .int 0, .ref a23])), (a18, .inr (7, [.int (-1), .int 0, .ref a24])), (a19, .inl (y 1, 60, .inr (.inl (fun _ => 0)))), (a20, .inl (y 1, 60, .inr (.inl (fun _ => 0)))), (a21, .inl (y 1, 60, .inr (.inl (fun _ => 0)))), (a23, .inl (y 1, 60, .inr (.inl (fun _ => 0)))), (a24, .inl (y 1, 60, .inr (.inl (fun _ => 0))))]) (zrunV (As := [.int p2, .int p3]) (rest := []) ⟨hx, hb, hml, hown, ht⟩ (zc_X8_become_0 l D y a16 p2 p3 a22 b21_ b26_) (cwV 2 ht (zgV zm_1227 zm_1228 zm_1229 zm_39 zm_1230) rfl rfl rfl (by decide +kernel) ⟨(Nat.le_of_ble_eq_true rfl), (Nat.le_of_ble_eq_true rfl)⟩) hK hE hS hA hW [5, 11] (by decide) rfl 0 rfl rfl rfl rfl hl.1 rfl (Nat.le_of_ble_eq_true rfl) dX9_tape_60 (Nat.le_of_ble_eq_true rfl) (Nat.le_of_ble_eq_true rfl)) hS hA hW [5, 11] [0, 1, 2, 3, 4, 6, 7, 8, 9, 10, 12, 13] rfl rfl (by decide) (by decide) (fun u H locs hw hW hS => ?_)
                        have hW : zPD D A [(a0, .inr (8, [w4, w5, w6, w7, w8, w9, w10, w11, .ref a12])), (a12, .inl (y 5, 6, .inr (.inr (.inr (.inr (va_up (va_up (va_up (va_up (va_up (va_up (fun _ => none) 0 (some a13)) 1 (some a14)) 2 (some a15)) 3 (some a16)) 4 (some a17)) 5 (some a18))))))), (a13, .inr (7, [.int (-1), .int 0, .ref a19])), (a14, .inr (7, [.int (-1), .int 0, .ref a20])), (a15, .inr (7, [.int (-1), .int 0, .ref a21])), (a17, .inr (7, [.int (-1), .int 0, .ref a23])), (a18, .inr (7, [.int (-1), .int 0, .ref a24])), (a19, .inl (y 1, 60, .inr (.inl (fun _ => 0)))), (a20, .inl (y 1, 60, .inr (.inl (fun _ => 0)))), (a21, .inl (y 1, 60, .inr (.inl (fun _ => 0)))), (a23, .inl (y 1, 60, .inr (.inl (fun _ => 0)))), (a24, .inl (y 1, 60, .inr (.inl (fun _ => 0)))), (a16, .inr (7, [.int p2, .int p3, .ref a22])), (a22, .inl (y 1, 60, .inr (.inl (fun _ => 0))))] H := hW
                        refine lv_iconst (v := 1) hx hb dX9_tape_63 (by decide) ?_
                        exact zret_i (v := 1) hx hb hr hlocks hS () (by show _ = _; rw [if_neg c2_, if_neg c6_, if_neg c11_, if_neg c14_, if_neg c18_, if_pos c23_, if_pos c25_]) (hW.sub [] (by decide) rfl) (Nat.le_of_ble_eq_true rfl) (Nat.le_of_ble_eq_true rfl) dX9_tape_64
                      · have b42_ : 4 ≤ Int32.toInt p1 ∧ Int32.toInt p1 ≤ 5 := (by have u0 := b38_; have u1 := (not_congr (zi_eq _ _)).mp c39_; have u2 : (3 : Int32).toInt = 3 := (by decide); omega)
                        by_cases c43_ : p1 = 4
                        · have b44_ : 4 ≤ Int32.toInt p1 ∧ Int32.toInt p1 ≤ 4 := (by have u0 := b42_; have u1 := (zi_eq _ _).mp c43_; have u2 : (4 : Int32).toInt = 4 := (by decide); omega)
                          refine ztop (w := .int 4) (congrArg Value.int c43_) ?_
                          refine zaald (v := .ref a17) hx hb hK hW 1 5 rfl rfl (by unfold vp_in; decide) rfl dX9_tape_57 ?_
                          refine lv_iload_n hx hb dX9_tape_58 rfl (lv_at hl 2 rfl) ?_
                          refine lv_iload_n hx hb dX9_tape_59 rfl (lv_at hl 3 rfl) ?_
                          refine zgo_v (wr := [(a0, .inr (8, [w4, w5, w6, w7, w8, w9, w10, w11, .ref a12])), (a12, .inl (y 5, 6, .inr (.inr (.inr (.inr (va_up (va_up (va_up (va_up (va_up (va_up (fun _ => none) 0 (some a13)) 1 (some a14)) 2 (some a15)) 3 (some a16)) 4 (some a17)) 5 (some a18))))))), (a13, .inr (7, [.int (-1), .int 0, .ref a19])), (a14, .inr (7, [.int (-1), .int 0, .ref a20])), (a15, .inr (7, [.int (-1), .int 0, .ref a21])), (a16, .inr (7, [.int (-1), .int 0, .ref a22])), (a18, .inr (7, [.int (-1), .int 0, .ref a24])), (a19, .inl (y 1, 60, .inr (.inl (fun _ => 0)))), (a20, .inl (y 1, 60, .inr (.inl (fun _ => 0)))), (a21, .inl (y 1, 60, .inr (.inl (fun _ => 0)))), (a22, .inl (y 1, 60, .inr (.inl (fun _ => 0)))), (a24, .inl (y 1, 60, .inr (.inl (fun _ => 0))))]) (zrunV (As := [.int p2, .int p3]) (rest := []) ⟨hx, hb, hml, hown, ht⟩ (zc_X8_become_0 l D y a17 p2 p3 a23 b21_ b26_) (cwV 2 ht (zgV zm_1227 zm_1228 zm_1229 zm_39 zm_1230) rfl rfl rfl (by decide +kernel) ⟨(Nat.le_of_ble_eq_true rfl), (Nat.le_of_ble_eq_true rfl)⟩) hK hE hS hA hW [6, 12] (by decide) rfl 0 rfl rfl rfl rfl hl.1 rfl (Nat.le_of_ble_eq_true rfl) dX9_tape_60 (Nat.le_of_ble_eq_true rfl) (Nat.le_of_ble_eq_true rfl)) hS hA hW [6, 12] [0, 1, 2, 3, 4, 5, 7, 8, 9, 10, 11, 13] rfl rfl (by decide) (by decide) (fun u H locs hw hW hS => ?_)
                          have hW : zPD D A [(a0, .inr (8, [w4, w5, w6, w7, w8, w9, w10, w11, .ref a12])), (a12, .inl (y 5, 6, .inr (.inr (.inr (.inr (va_up (va_up (va_up (va_up (va_up (va_up (fun _ => none) 0 (some a13)) 1 (some a14)) 2 (some a15)) 3 (some a16)) 4 (some a17)) 5 (some a18))))))), (a13, .inr (7, [.int (-1), .int 0, .ref a19])), (a14, .inr (7, [.int (-1), .int 0, .ref a20])), (a15, .inr (7, [.int (-1), .int 0, .ref a21])), (a16, .inr (7, [.int (-1), .int 0, .ref a22])), (a18, .inr (7, [.int (-1), .int 0, .ref a24])), (a19, .inl (y 1, 60, .inr (.inl (fun _ => 0)))), (a20, .inl (y 1, 60, .inr (.inl (fun _ => 0)))), (a21, .inl (y 1, 60, .inr (.inl (fun _ => 0)))), (a22, .inl (y 1, 60, .inr (.inl (fun _ => 0)))), (a24, .inl (y 1, 60, .inr (.inl (fun _ => 0)))), (a17, .inr (7, [.int p2, .int p3, .ref a23])), (a23, .inl (y 1, 60, .inr (.inl (fun _ => 0))))] H := hW
                          refine lv_iconst (v := 1) hx hb dX9_tape_63 (by decide) ?_
                          exact zret_i (v := 1) hx hb hr hlocks hS () (by show _ = _; rw [if_neg c2_, if_neg c6_, if_neg c11_, if_neg c14_, if_neg c18_, if_pos c23_, if_pos c25_]) (hW.sub [] (by decide) rfl) (Nat.le_of_ble_eq_true rfl) (Nat.le_of_ble_eq_true rfl) dX9_tape_64
                        · have b46_ : 5 ≤ Int32.toInt p1 ∧ Int32.toInt p1 ≤ 5 := (by have u0 := b42_; have u1 := (not_congr (zi_eq _ _)).mp c43_; have u2 : (4 : Int32).toInt = 4 := (by decide); omega)
                          refine ztop (w := .int 5) (congrArg Value.int ((zi_eq _ _).mpr (by have u0 := b46_; have u1 : (5 : Int32).toInt = 5 := (by decide); omega))) ?_
                          refine zaald (v := .ref a18) hx hb hK hW 1 5 rfl rfl (by unfold vp_in; decide) rfl dX9_tape_57 ?_
                          refine lv_iload_n hx hb dX9_tape_58 rfl (lv_at hl 2 rfl) ?_
                          refine lv_iload_n hx hb dX9_tape_59 rfl (lv_at hl 3 rfl) ?_
                          refine zgo_v (wr := [(a0, .inr (8, [w4, w5, w6, w7, w8, w9, w10, w11, .ref a12])), (a12, .inl (y 5, 6, .inr (.inr (.inr (.inr (va_up (va_up (va_up (va_up (va_up (va_up (fun _ => none) 0 (some a13)) 1 (some a14)) 2 (some a15)) 3 (some a16)) 4 (some a17)) 5 (some a18))))))), (a13, .inr (7, [.int (-1), .int 0, .ref a19])), (a14, .inr (7, [.int (-1), .int 0, .ref a20])), (a15, .inr (7, [.int (-1), .int 0, .ref a21])), (a16, .inr (7, [.int (-1), .int 0, .ref a22])), (a17, .inr (7, [.int (-1), .int 0, .ref a23])), (a19, .inl (y 1, 60, .inr (.inl (fun _ => 0)))), (a20, .inl (y 1, 60, .inr (.inl (fun _ => 0)))), (a21, .inl (y 1, 60, .inr (.inl (fun _ => 0)))), (a22, .inl (y 1, 60, .inr (.inl (fun _ => 0)))), (a23, .inl (y 1, 60, .inr (.inl (fun _ => 0))))]) (zrunV (As := [.int p2, .int p3]) (rest := []) ⟨hx, hb, hml, hown, ht⟩ (zc_X8_become_0 l D y a18 p2 p3 a24 b21_ b26_) (cwV 2 ht (zgV zm_1227 zm_1228 zm_1229 zm_39 zm_1230) rfl rfl rfl (by decide +kernel) ⟨(Nat.le_of_ble_eq_true rfl), (Nat.le_of_ble_eq_true rfl)⟩) hK hE hS hA hW [7, 13] (by decide) rfl 0 rfl rfl rfl rfl hl.1 rfl (Nat.le_of_ble_eq_true rfl) dX9_tape_60 (Nat.le_of_ble_eq_true rfl) (Nat.le_of_ble_eq_true rfl)) hS hA hW [7, 13] [0, 1, 2, 3, 4, 5, 6, 8, 9, 10, 11, 12] rfl rfl (by decide) (by decide) (fun u H locs hw hW hS => ?_)
                          have hW : zPD D A [(a0, .inr (8, [w4, w5, w6, w7, w8, w9, w10, w11, .ref a12])), (a12, .inl (y 5, 6, .inr (.inr (.inr (.inr (va_up (va_up (va_up (va_up (va_up (va_up (fun _ => none) 0 (some a13)) 1 (some a14)) 2 (some a15)) 3 (some a16)) 4 (some a17)) 5 (some a18))))))), (a13, .inr (7, [.int (-1), .int 0, .ref a19])), (a14, .inr (7, [.int (-1), .int 0, .ref a20])), (a15, .inr (7, [.int (-1), .int 0, .ref a21])), (a16, .inr (7, [.int (-1), .int 0, .ref a22])), (a17, .inr (7, [.int (-1), .int 0, .ref a23])), (a19, .inl (y 1, 60, .inr (.inl (fun _ => 0)))), (a20, .inl (y 1, 60, .inr (.inl (fun _ => 0)))), (a21, .inl (y 1, 60, .inr (.inl (fun _ => 0)))), (a22, .inl (y 1, 60, .inr (.inl (fun _ => 0)))), (a23, .inl (y 1, 60, .inr (.inl (fun _ => 0)))), (a18, .inr (7, [.int p2, .int p3, .ref a24])), (a24, .inl (y 1, 60, .inr (.inl (fun _ => 0))))] H := hW
                          refine lv_iconst (v := 1) hx hb dX9_tape_63 (by decide) ?_
                          exact zret_i (v := 1) hx hb hr hlocks hS () (by show _ = _; rw [if_neg c2_, if_neg c6_, if_neg c11_, if_neg c14_, if_neg c18_, if_pos c23_, if_pos c25_]) (hW.sub [] (by decide) rfl) (Nat.le_of_ble_eq_true rfl) (Nat.le_of_ble_eq_true rfl) dX9_tape_64
              · have b48_ : (-2147483648) ≤ Int32.toInt p3 ∧ Int32.toInt p3 ≤ (-1) := (by have u0 := b24_; have u1 := (not_congr (zi_le _ _)).mp c25_; have u2 : (0 : Int32).toInt = 0 := (by decide); omega)
                refine lv_bipush (v := (-14)) hx hb dX9_tape_49 (by decide) ?_
                exact zret_i (v := (-14)) hx hb hr hlocks hS () (by show _ = _; rw [if_neg c2_, if_neg c6_, if_neg c11_, if_neg c14_, if_neg c18_, if_pos c23_, if_neg c25_]) (hW.sub [] (by decide) rfl) (Nat.le_of_ble_eq_true rfl) (Nat.le_of_ble_eq_true rfl) dX9_tape_51
            · have b49_ : 61 ≤ Int32.toInt p3 ∧ Int32.toInt p3 ≤ 2147483647 := (by have u0 := zbnd p3; have u1 := (not_congr (zi_le _ _)).mp c23_; have u2 : (60 : Int32).toInt = 60 := (by decide); omega)
              refine lv_bipush (v := (-2)) hx hb dX9_tape_42 (by decide) ?_
              exact zret_i (v := (-2)) hx hb hr hlocks hS () (by show _ = _; rw [if_neg c2_, if_neg c6_, if_neg c11_, if_neg c14_, if_neg c18_, if_neg c23_]) (hW.sub [] (by decide) rfl) (Nat.le_of_ble_eq_true rfl) (Nat.le_of_ble_eq_true rfl) dX9_tape_44
      · have b50_ : (-1) ≤ Int32.toInt p2 ∧ Int32.toInt p2 ≤ (-1) := (by have u0 := zbnd p2; have u1 := (zi_eq _ _).mp c11_; have u2 : ((-1) : Int32).toInt = -1 := (by decide); omega)
        refine lv_aload_n hx hb dX9_tape_14 rfl (lv_at hl 0 rfl) ?_
        refine zget hx hb ht inlX9 hown hK hW 0 rfl rfl 8 (by decide) zm_35 rfl dX9_tape_15 ?_
        refine lv_iload_n hx hb dX9_tape_18 rfl (lv_at hl 1 rfl) ?_
        by_cases c51_ : p1 = 0
        · have b52_ : 0 ≤ Int32.toInt p1 ∧ Int32.toInt p1 ≤ 0 := (by have u0 := b9_; have u1 := (zi_eq _ _).mp c51_; have u2 : (0 : Int32).toInt = 0 := (by decide); omega)
          refine ztop (w := .int 0) (congrArg Value.int c51_) ?_
          refine zaald (v := .ref a13) hx hb hK hW 1 5 rfl rfl (by unfold vp_in; decide) rfl dX9_tape_19 ?_
          refine lv_iconst (v := (-1)) hx hb dX9_tape_20 (by decide) ?_
          refine lv_iconst (v := 0) hx hb dX9_tape_21 (by decide) ?_
          refine zgo_v (wr := [(a0, .inr (8, [w4, w5, w6, w7, w8, w9, w10, w11, .ref a12])), (a12, .inl (y 5, 6, .inr (.inr (.inr (.inr (va_up (va_up (va_up (va_up (va_up (va_up (fun _ => none) 0 (some a13)) 1 (some a14)) 2 (some a15)) 3 (some a16)) 4 (some a17)) 5 (some a18))))))), (a14, .inr (7, [.int (-1), .int 0, .ref a20])), (a15, .inr (7, [.int (-1), .int 0, .ref a21])), (a16, .inr (7, [.int (-1), .int 0, .ref a22])), (a17, .inr (7, [.int (-1), .int 0, .ref a23])), (a18, .inr (7, [.int (-1), .int 0, .ref a24])), (a19, .inl (y 1, 60, .inr (.inl (fun _ => 0)))), (a20, .inl (y 1, 60, .inr (.inl (fun _ => 0)))), (a21, .inl (y 1, 60, .inr (.inl (fun _ => 0)))), (a22, .inl (y 1, 60, .inr (.inl (fun _ => 0)))), (a23, .inl (y 1, 60, .inr (.inl (fun _ => 0)))), (a24, .inl (y 1, 60, .inr (.inl (fun _ => 0))))]) (zrunV (As := [.int (-1), .int 0]) (rest := []) ⟨hx, hb, hml, hown, ht⟩ (zc_X8_become_1 l D y a13 (.ref a19)) (cwV 2 ht (zgV zm_1227 zm_1228 zm_1229 zm_39 zm_1230) rfl rfl rfl (by decide +kernel) ⟨(Nat.le_of_ble_eq_true rfl), (Nat.le_of_ble_eq_true rfl)⟩) hK hE hS hA hW [2] (by decide) rfl 0 rfl rfl rfl rfl hl.1 rfl (Nat.le_of_ble_eq_true rfl) dX9_tape_22 (Nat.le_of_ble_eq_true rfl) (Nat.le_of_ble_eq_true rfl)) hS hA hW [2] [0, 1, 3, 4, 5, 6, 7, 8, 9, 10, 11, 12, 13] rfl rfl (by decide) (by decide) (fun u H locs hw hW hS => ?_)
          have hW : zPD D A [(a0, .inr (8, [w4, w5, w6, w7, w8, w9, w10, w11, .ref a12])), (a12, .inl (y 5, 6, .inr (.inr (.inr (.inr (va_up (va_up (va_up (va_up (va_up (va_up (fun _ => none) 0 (some a13)) 1 (some a14)) 2 (some a15)) 3 (some a16)) 4 (some a17)) 5 (some a18))))))), (a14, .inr (7, [.int (-1), .int 0, .ref a20])), (a15, .inr (7, [.int (-1), .int 0, .ref a21])), (a16, .inr (7, [.int (-1), .int 0, .ref a22])), (a17, .inr (7, [.int (-1), .int 0, .ref a23])), (a18, .inr (7, [.int (-1), .int 0, .ref a24])), (a19, .inl (y 1, 60, .inr (.inl (fun _ => 0)))), (a20, .inl (y 1, 60, .inr (.inl (fun _ => 0)))), (a21, .inl (y 1, 60, .inr (.inl (fun _ => 0)))), (a22, .inl (y 1, 60, .inr (.inl (fun _ => 0)))), (a23, .inl (y 1, 60, .inr (.inl (fun _ => 0)))), (a24, .inl (y 1, 60, .inr (.inl (fun _ => 0)))), (a13, .inr (7, [.int (-1), .int 0, .ref a19]))] H := hW
          refine lv_iconst (v := 1) hx hb dX9_tape_25 (by decide) ?_
          exact zret_i (v := 1) hx hb hr hlocks hS () (by show _ = _; rw [if_neg c2_, if_neg c6_, if_pos c11_]) (hW.sub [] (by decide) rfl) (Nat.le_of_ble_eq_true rfl) (Nat.le_of_ble_eq_true rfl) dX9_tape_26
        · have b54_ : 1 ≤ Int32.toInt p1 ∧ Int32.toInt p1 ≤ 5 := (by have u0 := b9_; have u1 := (not_congr (zi_eq _ _)).mp c51_; have u2 : (0 : Int32).toInt = 0 := (by decide); omega)
          by_cases c55_ : p1 = 1
          · have b56_ : 1 ≤ Int32.toInt p1 ∧ Int32.toInt p1 ≤ 1 := (by have u0 := b54_; have u1 := (zi_eq _ _).mp c55_; have u2 : (1 : Int32).toInt = 1 := (by decide); omega)
            refine ztop (w := .int 1) (congrArg Value.int c55_) ?_
            refine zaald (v := .ref a14) hx hb hK hW 1 5 rfl rfl (by unfold vp_in; decide) rfl dX9_tape_19 ?_
            refine lv_iconst (v := (-1)) hx hb dX9_tape_20 (by decide) ?_
            refine lv_iconst (v := 0) hx hb dX9_tape_21 (by decide) ?_
            refine zgo_v (wr := [(a0, .inr (8, [w4, w5, w6, w7, w8, w9, w10, w11, .ref a12])), (a12, .inl (y 5, 6, .inr (.inr (.inr (.inr (va_up (va_up (va_up (va_up (va_up (va_up (fun _ => none) 0 (some a13)) 1 (some a14)) 2 (some a15)) 3 (some a16)) 4 (some a17)) 5 (some a18))))))), (a13, .inr (7, [.int (-1), .int 0, .ref a19])), (a15, .inr (7, [.int (-1), .int 0, .ref a21])), (a16, .inr (7, [.int (-1), .int 0, .ref a22])), (a17, .inr (7, [.int (-1), .int 0, .ref a23])), (a18, .inr (7, [.int (-1), .int 0, .ref a24])), (a19, .inl (y 1, 60, .inr (.inl (fun _ => 0)))), (a20, .inl (y 1, 60, .inr (.inl (fun _ => 0)))), (a21, .inl (y 1, 60, .inr (.inl (fun _ => 0)))), (a22, .inl (y 1, 60, .inr (.inl (fun _ => 0)))), (a23, .inl (y 1, 60, .inr (.inl (fun _ => 0)))), (a24, .inl (y 1, 60, .inr (.inl (fun _ => 0))))]) (zrunV (As := [.int (-1), .int 0]) (rest := []) ⟨hx, hb, hml, hown, ht⟩ (zc_X8_become_1 l D y a14 (.ref a20)) (cwV 2 ht (zgV zm_1227 zm_1228 zm_1229 zm_39 zm_1230) rfl rfl rfl (by decide +kernel) ⟨(Nat.le_of_ble_eq_true rfl), (Nat.le_of_ble_eq_true rfl)⟩) hK hE hS hA hW [3] (by decide) rfl 0 rfl rfl rfl rfl hl.1 rfl (Nat.le_of_ble_eq_true rfl) dX9_tape_22 (Nat.le_of_ble_eq_true rfl) (Nat.le_of_ble_eq_true rfl)) hS hA hW [3] [0, 1, 2, 4, 5, 6, 7, 8, 9, 10, 11, 12, 13] rfl rfl (by decide) (by decide) (fun u H locs hw hW hS => ?_)
            have hW : zPD D A [(a0, .inr (8, [w4, w5, w6, w7, w8, w9, w10, w11, .ref a12])), (a12, .inl (y 5, 6, .inr (.inr (.inr (.inr (va_up (va_up (va_up (va_up (va_up (va_up (fun _ => none) 0 (some a13)) 1 (some a14)) 2 (some a15)) 3 (some a16)) 4 (some a17)) 5 (some a18))))))), (a13, .inr (7, [.int (-1), .int 0, .ref a19])), (a15, .inr (7, [.int (-1), .int 0, .ref a21])), (a16, .inr (7, [.int (-1), .int 0, .ref a22])), (a17, .inr (7, [.int (-1), .int 0, .ref a23])), (a18, .inr (7, [.int (-1), .int 0, .ref a24])), (a19, .inl (y 1, 60, .inr (.inl (fun _ => 0)))), (a20, .inl (y 1, 60, .inr (.inl (fun _ => 0)))), (a21, .inl (y 1, 60, .inr (.inl (fun _ => 0)))), (a22, .inl (y 1, 60, .inr (.inl (fun _ => 0)))), (a23, .inl (y 1, 60, .inr (.inl (fun _ => 0)))), (a24, .inl (y 1, 60, .inr (.inl (fun _ => 0)))), (a14, .inr (7, [.int (-1), .int 0, .ref a20]))] H := hW
            refine lv_iconst (v := 1) hx hb dX9_tape_25 (by decide) ?_
            exact zret_i (v := 1) hx hb hr hlocks hS () (by show _ = _; rw [if_neg c2_, if_neg c6_, if_pos c11_]) (hW.sub [] (by decide) rfl) (Nat.le_of_ble_eq_true rfl) (Nat.le_of_ble_eq_true rfl) dX9_tape_26
          · have b58_ : 2 ≤ Int32.toInt p1 ∧ Int32.toInt p1 ≤ 5 := (by have u0 := b54_; have u1 := (not_congr (zi_eq _ _)).mp c55_; have u2 : (1 : Int32).toInt = 1 := (by decide); omega)
            by_cases c59_ : p1 = 2
            · have b60_ : 2 ≤ Int32.toInt p1 ∧ Int32.toInt p1 ≤ 2 := (by have u0 := b58_; have u1 := (zi_eq _ _).mp c59_; have u2 : (2 : Int32).toInt = 2 := (by decide); omega)
              refine ztop (w := .int 2) (congrArg Value.int c59_) ?_
              refine zaald (v := .ref a15) hx hb hK hW 1 5 rfl rfl (by unfold vp_in; decide) rfl dX9_tape_19 ?_
              refine lv_iconst (v := (-1)) hx hb dX9_tape_20 (by decide) ?_
              refine lv_iconst (v := 0) hx hb dX9_tape_21 (by decide) ?_
              refine zgo_v (wr := [(a0, .inr (8, [w4, w5, w6, w7, w8, w9, w10, w11, .ref a12])), (a12, .inl (y 5, 6, .inr (.inr (.inr (.inr (va_up (va_up (va_up (va_up (va_up (va_up (fun _ => none) 0 (some a13)) 1 (some a14)) 2 (some a15)) 3 (some a16)) 4 (some a17)) 5 (some a18))))))), (a13, .inr (7, [.int (-1), .int 0, .ref a19])), (a14, .inr (7, [.int (-1), .int 0, .ref a20])), (a16, .inr (7, [.int (-1), .int 0, .ref a22])), (a17, .inr (7, [.int (-1), .int 0, .ref a23])), (a18, .inr (7, [.int (-1), .int 0, .ref a24])), (a19, .inl (y 1, 60, .inr (.inl (fun _ => 0)))), (a20, .inl (y 1, 60, .inr (.inl (fun _ => 0)))), (a21, .inl (y 1, 60, .inr (.inl (fun _ => 0)))), (a22, .inl (y 1, 60, .inr (.inl (fun _ => 0)))), (a23, .inl (y 1, 60, .inr (.inl (fun _ => 0)))), (a24, .inl (y 1, 60, .inr (.inl (fun _ => 0))))]) (zrunV (As := [.int (-1), .int 0]) (rest := []) ⟨hx, hb, hml, hown, ht⟩ (zc_X8_become_1 l D y a15 (.ref a21)) (cwV 2 ht (zgV zm_1227 zm_1228 zm_1229 zm_39 zm_1230) rfl rfl rfl (by decide +kernel) ⟨(Nat.le_of_ble_eq_true rfl), (Nat.le_of_ble_eq_true rfl)⟩) hK hE hS hA hW [4] (by decide) rfl 0 rfl rfl rfl rfl hl.1 rfl (Nat.le_of_ble_eq_true rfl) dX9_tape_22 (Nat.le_of_ble_eq_true rfl) (Nat.le_of_ble_eq_true rfl)) hS hA hW [4] [0, 1, 2, 3, 5, 6, 7, 8, 9, 10, 11, 12, 13] rfl rfl (by decide) (by decide) (fun u H locs hw hW hS => ?_)
              have hW : zPD D A [(a0, .inr (8, [w4, w5, w6, w7, w8, w9, w10, w11, .ref a12])), (a12, .inl (y 5, 6, .inr (.inr (.inr (.inr (va_up (va_up (va_up (va_up (va_up (va_up (fun _ => none) 0 (some a13)) 1 (some a14)) 2 (some a15)) 3 (some a16)) 4 (some a17)) 5 (some a18))))))), (a13, .inr (7, [.int (-1), .int 0, .ref a19])), (a14, .inr (7, [.int (-1), .int 0, .ref a20])), (a16, .inr (7, [.int (-1), .int 0, .ref a22])), (a17, .inr (7, [.int (-1), .int 0, .ref a23])), (a18, .inr (7, [.int (-1), .int 0, .ref a24])), (a19, .inl (y 1, 60, .inr (.inl (fun _ => 0)))), (a20, .inl (y 1, 60, .inr (.inl (fun _ => 0)))), (a21, .inl (y 1, 60, .inr (.inl (fun _ => 0)))), (a22, .inl (y 1, 60, .inr (.inl (fun _ => 0)))), (a23, .inl (y 1, 60, .inr (.inl (fun _ => 0)))), (a24, .inl (y 1, 60, .inr (.inl (fun _ => 0)))), (a15, .inr (7, [.int (-1), .int 0, .ref a21]))] H := hW
              refine lv_iconst (v := 1) hx hb dX9_tape_25 (by decide) ?_
              exact zret_i (v := 1) hx hb hr hlocks hS () (by show _ = _; rw [if_neg c2_, if_neg c6_, if_pos c11_]) (hW.sub [] (by decide) rfl) (Nat.le_of_ble_eq_true rfl) (Nat.le_of_ble_eq_true rfl) dX9_tape_26
            · have b62_ : 3 ≤ Int32.toInt p1 ∧ Int32.toInt p1 ≤ 5 := (by have u0 := b58_; have u1 := (not_congr (zi_eq _ _)).mp c59_; have u2 : (2 : Int32).toInt = 2 := (by decide); omega)
              by_cases c63_ : p1 = 3
              · have b64_ : 3 ≤ Int32.toInt p1 ∧ Int32.toInt p1 ≤ 3 := (by have u0 := b62_; have u1 := (zi_eq _ _).mp c63_; have u2 : (3 : Int32).toInt = 3 := (by decide); omega)
                refine ztop (w := .int 3) (congrArg Value.int c63_) ?_
                refine zaald (v := .ref a16) hx hb hK hW 1 5 rfl rfl (by unfold vp_in; decide) rfl dX9_tape_19 ?_
                refine lv_iconst (v := (-1)) hx hb dX9_tape_20 (by decide) ?_
                refine lv_iconst (v := 0) hx hb dX9_tape_21 (by decide) ?_
                refine zgo_v (wr := [(a0, .inr (8, [w4, w5, w6, w7, w8, w9, w10, w11, .ref a12])), (a12, .inl (y 5, 6, .inr (.inr (.inr (.inr (va_up (va_up (va_up (va_up (va_up (va_up (fun _ => none) 0 (some a13)) 1 (some a14)) 2 (some a15)) 3 (some a16)) 4 (some a17)) 5 (some a18))))))), (a13, .inr (7, [.int (-1), .int 0, .ref a19])), (a14, .inr (7, [.int (-1), .int 0, .ref a20])), (a15, .inr (7, [.int (-1), .int 0, .ref a21])), (a17, .inr (7, [.int (-1), .int 0, .ref a23])), (a18, .inr (7, [.int (-1), .int 0, .ref a24])), (a19, .inl (y 1, 60, .inr (.inl (fun _ => 0)))), (a20, .inl (y 1, 60, .inr (.inl (fun _ => 0)))), (a21, .inl (y 1, 60, .inr (.inl (fun _ => 0)))), (a22, .inl (y 1, 60, .inr (.inl (fun _ => 0)))), (a23, .inl (y 1, 60, .inr (.inl (fun _ => 0)))), (a24, .inl (y 1, 60, .inr (.inl (fun _ => 0))))]) (zrunV (As := [.int (-1), .int 0]) (rest := []) ⟨hx, hb, hml, hown, ht⟩ (zc_X8_become_1 l D y a16 (.ref a22)) (cwV 2 ht (zgV zm_1227 zm_1228 zm_1229 zm_39 zm_1230) rfl rfl rfl (by decide +kernel) ⟨(Nat.le_of_ble_eq_true rfl), (Nat.le_of_ble_eq_true rfl)⟩) hK hE hS hA hW [5] (by decide) rfl 0 rfl rfl rfl rfl hl.1 rfl (Nat.le_of_ble_eq_true rfl) dX9_tape_22 (Nat.le_of_ble_eq_true rfl) (Nat.le_of_ble_eq_true rfl)) hS hA hW [5] [0, 1, 2, 3, 4, 6, 7, 8, 9, 10, 11, 12, 13] rfl rfl (by decide) (by decide) (fun u H locs hw hW hS => ?_)
                have hW : zPD D A [(a0, .inr (8, [w4, w5, w6, w7, w8, w9, w10, w11, .ref a12])), (a12, .inl (y 5, 6, .inr (.inr (.inr (.inr (va_up (va_up (va_up (va_up (va_up (va_up (fun _ => none) 0 (some a13)) 1 (some a14)) 2 (some a15)) 3 (some a16)) 4 (some a17)) 5 (some a18))))))), (a13, .inr (7, [.int (-1), .int 0, .ref a19])), (a14, .inr (7, [.int (-1), .int 0, .ref a20])), (a15, .inr (7, [.int (-1), .int 0, .ref a21])), (a17, .inr (7, [.int (-1), .int 0, .ref a23])), (a18, .inr (7, [.int (-1), .int 0, .ref a24])), (a19, .inl (y 1, 60, .inr (.inl (fun _ => 0)))), (a20, .inl (y 1, 60, .inr (.inl (fun _ => 0)))), (a21, .inl (y 1, 60, .inr (.inl (fun _ => 0)))), (a22, .inl (y 1, 60, .inr (.inl (fun _ => 0)))), (a23, .inl (y 1, 60, .inr (.inl (fun _ => 0)))), (a24, .inl (y 1, 60, .inr (.inl (fun _ => 0)))), (a16, .inr (7, [.int (-1), .int 0, .ref a22]))] H := hW
                refine lv_iconst (v := 1) hx hb dX9_tape_25 (by decide) ?_
                exact zret_i (v := 1) hx hb hr hlocks hS () (by show _ = _; rw [if_neg c2_, if_neg c6_, if_pos c11_]) (hW.sub [] (by decide) rfl) (Nat.le_of_ble_eq_true rfl) (Nat.le_of_ble_eq_true rfl) dX9_tape_26
              · have b66_ : 4 ≤ Int32.toInt p1 ∧ Int32.toInt p1 ≤ 5 := (by have u0 := b62_; have u1 := (not_congr (zi_eq _ _)).mp c63_; have u2 : (3 : Int32).toInt = 3 := (by decide); omega)
                by_cases c67_ : p1 = 4
                · have b68_ : 4 ≤ Int32.toInt p1 ∧ Int32.toInt p1 ≤ 4 := (by have u0 := b66_; have u1 := (zi_eq _ _).mp c67_; have u2 : (4 : Int32).toInt = 4 := (by decide); omega)
                  refine ztop (w := .int 4) (congrArg Value.int c67_) ?_
                  refine zaald (v := .ref a17) hx hb hK hW 1 5 rfl rfl (by unfold vp_in; decide) rfl dX9_tape_19 ?_
                  refine lv_iconst (v := (-1)) hx hb dX9_tape_20 (by decide) ?_
                  refine lv_iconst (v := 0) hx hb dX9_tape_21 (by decide) ?_
                  refine zgo_v (wr := [(a0, .inr (8, [w4, w5, w6, w7, w8, w9, w10, w11, .ref a12])), (a12, .inl (y 5, 6, .inr (.inr (.inr (.inr (va_up (va_up (va_up (va_up (va_up (va_up (fun _ => none) 0 (some a13)) 1 (some a14)) 2 (some a15)) 3 (some a16)) 4 (some a17)) 5 (some a18))))))), (a13, .inr (7, [.int (-1), .int 0, .ref a19])), (a14, .inr (7, [.int (-1), .int 0, .ref a20])), (a15, .inr (7, [.int (-1), .int 0, .ref a21])), (a16, .inr (7, [.int (-1), .int 0, .ref a22])), (a18, .inr (7, [.int (-1), .int 0, .ref a24])), (a19, .inl (y 1, 60, .inr (.inl (fun _ => 0)))), (a20, .inl (y 1, 60, .inr (.inl (fun _ => 0)))), (a21, .inl (y 1, 60, .inr (.inl (fun _ => 0)))), (a22, .inl (y 1, 60, .inr (.inl (fun _ => 0)))), (a23, .inl (y 1, 60, .inr (.inl (fun _ => 0)))), (a24, .inl (y 1, 60, .inr (.inl (fun _ => 0))))]) (zrunV (As := [.int (-1), .int 0]) (rest := []) ⟨hx, hb, hml, hown, ht⟩ (zc_X8_become_1 l D y a17 (.ref a23)) (cwV 2 ht (zgV zm_1227 zm_1228 zm_1229 zm_39 zm_1230) rfl rfl rfl (by decide +kernel) ⟨(Nat.le_of_ble_eq_true rfl), (Nat.le_of_ble_eq_true rfl)⟩) hK hE hS hA hW [6] (by decide) rfl 0 rfl rfl rfl rfl hl.1 rfl (Nat.le_of_ble_eq_true rfl) dX9_tape_22 (Nat.le_of_ble_eq_true rfl) (Nat.le_of_ble_eq_true rfl)) hS hA hW [6] [0, 1, 2, 3, 4, 5, 7, 8, 9, 10, 11, 12, 13] rfl rfl (by decide) (by decide) (fun u H locs hw hW hS => ?_)
                  have hW : zPD D A [(a0, .inr (8, [w4, w5, w6, w7, w8, w9, w10, w11, .ref a12])), (a12, .inl (y 5, 6, .inr (.inr (.inr (.inr (va_up (va_up (va_up (va_up (va_up (va_up (fun _ => none) 0 (some a13)) 1 (some a14)) 2 (some a15)) 3 (some a16)) 4 (some a17)) 5 (some a18))))))), (a13, .inr (7, [.int (-1), .int 0, .ref a19])), (a14, .inr (7, [.int (-1), .int 0, .ref a20])), (a15, .inr (7, [.int (-1), .int 0, .ref a21])), (a16, .inr (7, [.int (-1), .int 0, .ref a22])), (a18, .inr (7, [.int (-1), .int 0, .ref a24])), (a19, .inl (y 1, 60, .inr (.inl (fun _ => 0)))), (a20, .inl (y 1, 60, .inr (.inl (fun _ => 0)))), (a21, .inl (y 1, 60, .inr (.inl (fun _ => 0)))), (a22, .inl (y 1, 60, .inr (.inl (fun _ => 0)))), (a23, .inl (y 1, 60, .inr (.inl (fun _ => 0)))), (a24, .inl (y 1, 60, .inr (.inl (fun _ => 0)))), (a17, .inr (7, [.int (-1), .int 0, .ref a23]))] H := hW
                  refine lv_iconst (v := 1) hx hb dX9_tape_25 (by decide) ?_
                  exact zret_i (v := 1) hx hb hr hlocks hS () (by show _ = _; rw [if_neg c2_, if_neg c6_, if_pos c11_]) (hW.sub [] (by decide) rfl) (Nat.le_of_ble_eq_true rfl) (Nat.le_of_ble_eq_true rfl) dX9_tape_26
                · have b70_ : 5 ≤ Int32.toInt p1 ∧ Int32.toInt p1 ≤ 5 := (by have u0 := b66_; have u1 := (not_congr (zi_eq _ _)).mp c67_; have u2 : (4 : Int32).toInt = 4 := (by decide); omega)
                  refine ztop (w := .int 5) (congrArg Value.int ((zi_eq _ _).mpr (by have u0 := b70_; have u1 : (5 : Int32).toInt = 5 := (by decide); omega))) ?_
                  refine zaald (v := .ref a18) hx hb hK hW 1 5 rfl rfl (by unfold vp_in; decide) rfl dX9_tape_19 ?_
                  refine lv_iconst (v := (-1)) hx hb dX9_tape_20 (by decide) ?_
                  refine lv_iconst (v := 0) hx hb dX9_tape_21 (by decide) ?_
                  refine zgo_v (wr := [(a0, .inr (8, [w4, w5, w6, w7, w8, w9, w10, w11, .ref a12])), (a12, .inl (y 5, 6, .inr (.inr (.inr (.inr (va_up (va_up (va_up (va_up (va_up (va_up (fun _ => none) 0 (some a13)) 1 (some a14)) 2 (some a15)) 3 (some a16)) 4 (some a17)) 5 (some a18))))))), (a13, .inr (7, [.int (-1), .int 0, .ref a19])), (a14, .inr (7, [.int (-1), .int 0, .ref a20])), (a15, .inr (7, [.int (-1), .int 0, .ref a21])), (a16, .inr (7, [.int (-1), .int 0, .ref a22])), (a17, .inr (7, [.int (-1), .int 0, .ref a23])), (a19, .inl (y 1, 60, .inr (.inl (fun _ => 0)))), (a20, .inl (y 1, 60, .inr (.inl (fun _ => 0)))), (a21, .inl (y 1, 60, .inr (.inl (fun _ => 0)))), (a22, .inl (y 1, 60, .inr (.inl (fun _ => 0)))), (a23, .inl (y 1, 60, .inr (.inl (fun _ => 0)))), (a24, .inl (y 1, 60, .inr (.inl (fun _ => 0))))]) (zrunV (As := [.int (-1), .int 0]) (rest := []) ⟨hx, hb, hml, hown, ht⟩ (zc_X8_become_1 l D y a18 (.ref a24)) (cwV 2 ht (zgV zm_1227 zm_1228 zm_1229 zm_39 zm_1230) rfl rfl rfl (by decide +kernel) ⟨(Nat.le_of_ble_eq_true rfl), (Nat.le_of_ble_eq_true rfl)⟩) hK hE hS hA hW [7] (by decide) rfl 0 rfl rfl rfl rfl hl.1 rfl (Nat.le_of_ble_eq_true rfl) dX9_tape_22 (Nat.le_of_ble_eq_true rfl) (Nat.le_of_ble_eq_true rfl)) hS hA hW [7] [0, 1, 2, 3, 4, 5, 6, 8, 9, 10, 11, 12, 13] rfl rfl (by decide) (by decide) (fun u H locs hw hW hS => ?_)
                  have hW : zPD D A [(a0, .inr (8, [w4, w5, w6, w7, w8, w9, w10, w11, .ref a12])), (a12, .inl (y 5, 6, .inr (.inr (.inr (.inr (va_up (va_up (va_up (va_up (va_up (va_up (fun _ => none) 0 (some a13)) 1 (some a14)) 2 (some a15)) 3 (some a16)) 4 (some a17)) 5 (some a18))))))), (a13, .inr (7, [.int (-1), .int 0, .ref a19])), (a14, .inr (7, [.int (-1), .int 0, .ref a20])), (a15, .inr (7, [.int (-1), .int 0, .ref a21])), (a16, .inr (7, [.int (-1), .int 0, .ref a22])), (a17, .inr (7, [.int (-1), .int 0, .ref a23])), (a19, .inl (y 1, 60, .inr (.inl (fun _ => 0)))), (a20, .inl (y 1, 60, .inr (.inl (fun _ => 0)))), (a21, .inl (y 1, 60, .inr (.inl (fun _ => 0)))), (a22, .inl (y 1, 60, .inr (.inl (fun _ => 0)))), (a23, .inl (y 1, 60, .inr (.inl (fun _ => 0)))), (a24, .inl (y 1, 60, .inr (.inl (fun _ => 0)))), (a18, .inr (7, [.int (-1), .int 0, .ref a24]))] H := hW
                  refine lv_iconst (v := 1) hx hb dX9_tape_25 (by decide) ?_
                  exact zret_i (v := 1) hx hb hr hlocks hS () (by show _ = _; rw [if_neg c2_, if_neg c6_, if_pos c11_]) (hW.sub [] (by decide) rfl) (Nat.le_of_ble_eq_true rfl) (Nat.le_of_ble_eq_true rfl) dX9_tape_26
set_option maxHeartbeats 8000000 in
set_option maxRecDepth 100000 in
theorem zc_X10_tape_0 (l : Launch) (D : va_G) (y : Nat → ClassId) (a0 : Nat) (p1 : Int32) (p2 : Int32) (p3 : Int32) (w4 : Value) (w5 : Value) (w6 : Value) (w7 : Value) (w8 : Value) (w9 : Value) (w10 : Value) (w11 : Value) (w12 : Value) (w13 : Value) (w14 : Value) (w15 : Value) (w16 : Value) (w17 : Value) (w18 : Value) (w19 : Value) (w20 : Value) (w21 : Value) (w22 : Value) (w23 : Value) (w24 : Value) (w25 : Value) (w26 : Value) (w27 : Value) (w28 : Value) (w29 : Value) (w30 : Value) (w31 : Value) (w32 : Value) (w33 : Value) (w34 : Value) (w35 : Value) (w36 : Value) (w37 : Value) (w38 : Value) (w39 : Value) (w40 : Value) (w41 : Value) (w42 : Value) (w43 : Value) (w44 : Value) (w45 : Value) (w46 : Value) (w47 : Value) (w48 : Value) (w49 : Value) (w50 : Value) (w51 : Value) (w52 : Value) (w53 : Value) (w54 : Value) (w55 : Value) (w56 : Value) (w57 : Value) (w58 : Value) (w59 : Value) (w60 : Value) (w61 : Value) (w62 : Value) (w63 : Value) (w64 : Value) (w65 : Value) (w66 : Value) (w67 : Value) (w68 : Value) (w69 : Value) (w70 : Value) (w71 : Value) (w72 : Value) (w73 : Value) (w74 : Value) (w75 : Value) (a76 : Nat) (a77 : Nat) (a78 : Nat) (w79 : Value) : zM l D y yX10_tape (Cond.code yX10_tape cX10_tape 5 (some .int) :: zT) { frames := 2, cells := 0, slots := 0, locals := 44 } [.ref a0, .int p1, .int p2, .int p3] [(a0, .inr (9, [w4, w5, w6, w7, w8, w9, w10, w11, w12, w13, w14, w15, w16, w17, w18, w19, w20, w21, w22, w23, w24, w25, w26, w27, w28, w29, w30, w31, w32, w33, w34, w35, w36, w37, w38, w39, w40, w41, w42, w43, w44, w45, w46, w47, w48, w49, w50, w51, w52, w53, w54, w55, w56, w57, w58, w59, w60, w61, w62, w63, w64, w65, w66, w67, w68, w69, w70, w71, w72, w73, w74, w75, .ref a76, .ref a77, .ref a78, w79])), (a76, .inl (y 0, 6, .inl (upd (upd (upd (upd (upd (upd (fun _ => 0) 0 (-1)) 1 (-1)) 2 (-1)) 3 (-1)) 4 (-1)) 5 (-1)))), (a77, .inl (y 0, 6, .inl (fun _ => 0))), (a78, .inl (y 1, 360, .inr (.inl (fun _ => 0))))] (zQi (S := Unit) D (fun r_ _ => r_ = (if p1 < 0 then (-1) else (if 5 < p1 then (-1) else (if p2 < (-1) then (-2) else (if 4 < p2 then (-2) else (if p2 < 0 then 1 else (if p3 ≤ 60 then (if 0 ≤ p3 then 1 else (-14)) else (-2)))))))) (fun _ => [])) := by
  refine zent (cc := cX10_tape) (maxL := 5) (ret := (some .int)) (by decide) (Nat.le_of_ble_eq_true rfl) ?_
  intro p e s m below meth c A H locs ls hx hb hml hr ht hown hlocks hin hA hK hE hS hW hl
  have hown : s.vm.findClass RX10 = some m.cls := hown
  replace hW : zPD D A [(a0, .inr (9, [w4, w5, w6, w7, w8, w9, w10, w11, w12, w13, w14, w15, w16, w17, w18, w19, w20, w21, w22, w23, w24, w25, w26, w27, w28, w29, w30, w31, w32, w33, w34, w35, w36, w37, w38, w39, w40, w41, w42, w43, w44, w45, w46, w47, w48, w49, w50, w51, w52, w53, w54, w55, w56, w57, w58, w59, w60, w61, w62, w63, w64, w65, w66, w67, w68, w69, w70, w71, w72, w73, w74, w75, .ref a76, .ref a77, .ref a78, w79])), (a76, .inl (y 0, 6, .inl (upd (upd (upd (upd (upd (upd (fun _ => 0) 0 (-1)) 1 (-1)) 2 (-1)) 3 (-1)) 4 (-1)) 5 (-1)))), (a77, .inl (y 0, 6, .inl (fun _ => 0))), (a78, .inl (y 1, 360, .inr (.inl (fun _ => 0))))] H := hW
  replace hl : lv_has ls 5 [(0, .ref a0), (1, .int p1), (2, .int p2), (3, .int p3)] := hl
  refine lv_aload_n hx hb dX10_tape_0 rfl (lv_at hl 0 rfl) ?_
  refine lv_iload_n hx hb dX10_tape_1 rfl (lv_at hl 1 rfl) ?_
  refine zgo_i (wr := [(a76, .inl (y 0, 6, .inl (upd (upd (upd (upd (upd (upd (fun _ => 0) 0 (-1)) 1 (-1)) 2 (-1)) 3 (-1)) 4 (-1)) 5 (-1)))), (a77, .inl (y 0, 6, .inl (fun _ => 0))), (a78, .inl (y 1, 360, .inr (.inl (fun _ => 0))))]) (zrunV (As := [.int p1]) (rest := []) ⟨hx, hb, hml, hown, ht⟩ (zc_X10_isTape_0 l D y a0 p1 w4 w5 w6 w7 w8 w9 w10 w11 w12 w13 w14 w15 w16 w17 w18 w19 w20 w21 w22 w23 w24 w25 w26 w27 w28 w29 w30 w31 w32 w33 w34 w35 w36 w37 w38 w39 w40 w41 w42 w43 w44 w45 w46 w47 w48 w49 w50 w51 w52 w53 w54 w55 w56 w57 w58 w59 w60 w61 w62 w63 w64 w65 w66 w67 w68 w69 w70 w71 w72 w73 w74 w75 (.ref a76) (.ref a77) (.ref a78) w79) (cwV 1 ht (zgV zm_1097 zm_1098 zm_1099 zm_5 zm_1100) rfl rfl rfl (by decide +kernel) ⟨(Nat.le_of_ble_eq_true rfl), (Nat.le_of_ble_eq_true rfl)⟩) hK hE hS hA hW [0] (by decide) rfl 0 rfl rfl rfl rfl hl.1 rfl (Nat.le_of_ble_eq_true rfl) dX10_tape_2 (Nat.le_of_ble_eq_true rfl) (Nat.le_of_ble_eq_true rfl)) hS hA hW [0] [1, 2, 3] rfl rfl (by decide) (by decide) (fun r1_ u H locs hw hW hS => ?_)
  replace hW : zPD D A [(a76, .inl (y 0, 6, .inl (upd (upd (upd (upd (upd (upd (fun _ => 0) 0 (-1)) 1 (-1)) 2 (-1)) 3 (-1)) 4 (-1)) 5 (-1)))), (a77, .inl (y 0, 6, .inl (fun _ => 0))), (a78, .inl (y 1, 360, .inr (.inl (fun _ => 0)))), (a0, .inr (9, [w4, w5, w6, w7, w8, w9, w10, w11, w12, w13, w14, w15, w16, w17, w18, w19, w20, w21, w22, w23, w24, w25, w26, w27, w28, w29, w30, w31, w32, w33, w34, w35, w36, w37, w38, w39, w40, w41, w42, w43, w44, w45, w46, w47, w48, w49, w50, w51, w52, w53, w54, w55, w56, w57, w58, w59, w60, w61, w62, w63, w64, w65, w66, w67, w68, w69, w70, w71, w72, w73, w74, w75, .ref a76, .ref a77, .ref a78, w79]))] H := hW
  have hw : r1_ = (if p1 < 0 then 0 else (if 5 < p1 then 0 else 1)) := hw
  by_cases c2_ : p1 < 0
  · have b3_ : (-2147483648) ≤ Int32.toInt p1 ∧ Int32.toInt p1 ≤ (-1) := (by have u0 := zbnd p1; have u1 := (zi_lt _ _).mp c2_; have u2 : (0 : Int32).toInt = 0 := (by decide); omega)
    rw [if_pos c2_] at hw
    subst hw
    refine lv_if_ne (tgt := 10) hx hb dX10_tape_5 (by decide) (fun c4_ => absurd (by decide) c4_) (fun c4_ => ?_)
    refine lv_iconst (v := (-1)) hx hb dX10_tape_8 (by decide) ?_
    exact zret_i (v := (-1)) hx hb hr hlocks hS () (by show _ = _; rw [if_pos c2_]) (hW.sub [] (by decide) rfl) (Nat.le_of_ble_eq_true rfl) (Nat.le_of_ble_eq_true rfl) dX10_tape_9
  · have b5_ : 0 ≤ Int32.toInt p1 ∧ Int32.toInt p1 ≤ 2147483647 := (by have u0 := zbnd p1; have u1 := (not_congr (zi_lt _ _)).mp c2_; have u2 : (0 : Int32).toInt = 0 := (by decide); omega)
    rw [if_neg c2_] at hw
    by_cases c6_ : 5 < p1
    · have b7_ : 6 ≤ Int32.toInt p1 ∧ Int32.toInt p1 ≤ 2147483647 := (by have u0 := b5_; have u1 := (zi_lt _ _).mp c6_; have u2 : (5 : Int32).toInt = 5 := (by decide); omega)
      rw [if_pos c6_] at hw
      subst hw
      refine lv_if_ne (tgt := 10) hx hb dX10_tape_5 (by decide) (fun c8_ => absurd (by decide) c8_) (fun c8_ => ?_)
      refine lv_iconst (v := (-1)) hx hb dX10_tape_8 (by decide) ?_
      exact zret_i (v := (-1)) hx hb hr hlocks hS () (by show _ = _; rw [if_neg c2_, if_pos c6_]) (hW.sub [] (by decide) rfl) (Nat.le_of_ble_eq_true rfl) (Nat.le_of_ble_eq_true rfl) dX10_tape_9
    · have b9_ : 0 ≤ Int32.toInt p1 ∧ Int32.toInt p1 ≤ 5 := (by have u0 := b5_; have u1 := (not_congr (zi_lt _ _)).mp c6_; have u2 : (5 : Int32).toInt = 5 := (by decide); omega)
      rw [if_neg c6_] at hw
      subst hw
      refine lv_if_ne (tgt := 10) hx hb dX10_tape_5 (by decide) (fun c10_ => ?_) (fun c10_ => absurd c10_ (by decide))
      refine lv_aload_n hx hb dX10_tape_10 rfl (lv_at hl 0 rfl) ?_
      refine lv_iload_n hx hb dX10_tape_11 rfl (lv_at hl 2 rfl) ?_
      refine lv_iconst (v := (-1)) hx hb dX10_tape_12 (by decide) ?_
      refine lv_iconst (v := 4) hx hb dX10_tape_13 (by decide) ?_
      refine zgo_i (wr := [(a76, .inl (y 0, 6, .inl (upd (upd (upd (upd (upd (upd (fun _ => 0) 0 (-1)) 1 (-1)) 2 (-1)) 3 (-1)) 4 (-1)) 5 (-1)))), (a77, .inl (y 0, 6, .inl (fun _ => 0))), (a78, .inl (y 1, 360, .inr (.inl (fun _ => 0))))]) (zrunV (As := [.int p2, .int (-1), .int 4]) (rest := []) ⟨hx, hb, hml, hown, ht⟩ (zc_X10_in_9 l D y a0 p2 w4 w5 w6 w7 w8 w9 w10 w11 w12 w13 w14 w15 w16 w17 w18 w19 w20 w21 w22 w23 w24 w25 w26 w27 w28 w29 w30 w31 w32 w33 w34 w35 w36 w37 w38 w39 w40 w41 w42 w43 w44 w45 w46 w47 w48 w49 w50 w51 w52 w53 w54 w55 w56 w57 w58 w59 w60 w61 w62 w63 w64 w65 w66 w67 w68 w69 w70 w71 w72 w73 w74 w75 (.ref a76) (.ref a77) (.ref a78) w79) (cwV 3 ht (zgV zm_240 zm_241 zm_242 zm_5 zm_243) rfl rfl rfl (by decide +kernel) ⟨(Nat.le_of_ble_eq_true rfl), (Nat.le_of_ble_eq_true rfl)⟩) hK hE hS hA hW [3] (by decide) rfl 0 rfl rfl rfl rfl hl.1 rfl (Nat.le_of_ble_eq_true rfl) dX10_tape_14 (Nat.le_of_ble_eq_true rfl) (Nat.le_of_ble_eq_true rfl)) hS hA hW [3] [0, 1, 2] rfl rfl (by decide) (by decide) (fun r11_ u H locs hw hW hS => ?_)
      replace hW : zPD D A [(a76, .inl (y 0, 6, .inl (upd (upd (upd (upd (upd (upd (fun _ => 0) 0 (-1)) 1 (-1)) 2 (-1)) 3 (-1)) 4 (-1)) 5 (-1)))), (a77, .inl (y 0, 6, .inl (fun _ => 0))), (a78, .inl (y 1, 360, .inr (.inl (fun _ => 0)))), (a0, .inr (9, [w4, w5, w6, w7, w8, w9, w10, w11, w12, w13, w14, w15, w16, w17, w18, w19, w20, w21, w22, w23, w24, w25, w26, w27, w28, w29, w30, w31, w32, w33, w34, w35, w36, w37, w38, w39, w40, w41, w42, w43, w44, w45, w46, w47, w48, w49, w50, w51, w52, w53, w54, w55, w56, w57, w58, w59, w60, w61, w62, w63, w64, w65, w66, w67, w68, w69, w70, w71, w72, w73, w74, w75, .ref a76, .ref a77, .ref a78, w79]))] H := hW
      have hw : r11_ = (if p2 < (-1) then 0 else (if 4 < p2 then 0 else 1)) := hw
      by_cases c12_ : p2 < (-1)
      · have b13_ : (-2147483648) ≤ Int32.toInt p2 ∧ Int32.toInt p2 ≤ (-2) := (by have u0 := zbnd p2; have u1 := (zi_lt _ _).mp c12_; have u2 : ((-1) : Int32).toInt = -1 := (by decide); omega)
        rw [if_pos c12_] at hw
        subst hw
        refine lv_if_eq (tgt := 30) hx hb dX10_tape_17 (by decide) (fun c14_ => ?_) (fun c14_ => absurd (by decide) c14_)
        refine lv_bipush (v := (-2)) hx hb dX10_tape_30 (by decide) ?_
        exact zret_i (v := (-2)) hx hb hr hlocks hS () (by show _ = _; rw [if_neg c2_, if_neg c6_, if_pos c12_]) (hW.sub [] (by decide) rfl) (Nat.le_of_ble_eq_true rfl) (Nat.le_of_ble_eq_true rfl) dX10_tape_32
      · have b15_ : (-1) ≤ Int32.toInt p2 ∧ Int32.toInt p2 ≤ 2147483647 := (by have u0 := zbnd p2; have u1 := (not_congr (zi_lt _ _)).mp c12_; have u2 : ((-1) : Int32).toInt = -1 := (by decide); omega)
        rw [if_neg c12_] at hw
        by_cases c16_ : 4 < p2
        · have b17_ : 5 ≤ Int32.toInt p2 ∧ Int32.toInt p2 ≤ 2147483647 := (by have u0 := b15_; have u1 := (zi_lt _ _).mp c16_; have u2 : (4 : Int32).toInt = 4 := (by decide); omega)
          rw [if_pos c16_] at hw
          subst hw
          refine lv_if_eq (tgt := 30) hx hb dX10_tape_17 (by decide) (fun c18_ => ?_) (fun c18_ => absurd (by decide) c18_)
          refine lv_bipush (v := (-2)) hx hb dX10_tape_30 (by decide) ?_
          exact zret_i (v := (-2)) hx hb hr hlocks hS () (by show _ = _; rw [if_neg c2_, if_neg c6_, if_neg c12_, if_pos c16_]) (hW.sub [] (by decide) rfl) (Nat.le_of_ble_eq_true rfl) (Nat.le_of_ble_eq_true rfl) dX10_tape_32
        · have b19_ : (-1) ≤ Int32.toInt p2 ∧ Int32.toInt p2 ≤ 4 := (by have u0 := b15_; have u1 := (not_congr (zi_lt _ _)).mp c16_; have u2 : (4 : Int32).toInt = 4 := (by decide); omega)
          rw [if_neg c16_] at hw
          subst hw
          refine lv_if_eq (tgt := 30) hx hb dX10_tape_17 (by decide) (fun c20_ => absurd c20_ (by decide)) (fun c20_ => ?_)
          refine lv_iload_n hx hb dX10_tape_20 rfl (lv_at hl 2 rfl) ?_
          refine lv_if_lt (tgt := 33) hx hb dX10_tape_21 (by decide) (fun c21_ => ?_) (fun c21_ => ?_)
          · have b22_ : (-1) ≤ Int32.toInt p2 ∧ Int32.toInt p2 ≤ (-1) := (by have u0 := b19_; have u1 := (zi_lt _ _).mp c21_; have u2 : (0 : Int32).toInt = 0 := (by decide); omega)
            refine lv_iload_n hx hb dX10_tape_33 rfl (lv_at hl 2 rfl) ?_
            refine lv_if_lt (tgt := 44) hx hb dX10_tape_34 (by decide) (fun c23_ => ?_) (fun c23_ => absurd c21_ c23_)
            refine lv_aload_n hx hb dX10_tape_44 rfl (lv_at hl 0 rfl) ?_
            refine zget hx hb ht inlX10 hown hK hW 3 rfl rfl 72 (by decide) zm_212 rfl dX10_tape_45 ?_
            refine lv_iload_n hx hb dX10_tape_48 rfl (lv_at hl 1 rfl) ?_
            refine lv_iload_n hx hb dX10_tape_49 rfl (lv_at hl 2 rfl) ?_
            refine ziast (ws' := [(a76, .inl (y 0, 6, .inl (upd (upd (upd (upd (upd (upd (upd (fun _ => 0) 0 (-1)) 1 (-1)) 2 (-1)) 3 (-1)) 4 (-1)) 5 (-1)) (Int32.toNatClampNeg p1) p2))), (a77, .inl (y 0, 6, .inl (fun _ => 0))), (a78, .inl (y 1, 360, .inr (.inl (fun _ => 0)))), (a0, .inr (9, [w4, w5, w6, w7, w8, w9, w10, w11, w12, w13, w14, w15, w16, w17, w18, w19, w20, w21, w22, w23, w24, w25, w26, w27, w28, w29, w30, w31, w32, w33, w34, w35, w36, w37, w38, w39, w40, w41, w42, w43, w44, w45, w46, w47, w48, w49, w50, w51, w52, w53, w54, w55, w56, w57, w58, w59, w60, w61, w62, w63, w64, w65, w66, w67, w68, w69, w70, w71, w72, w73, w74, w75, .ref a76, .ref a77, .ref a78, w79]))]) hx hb hK hS hW 0 rfl (vp_in_iff.mpr (by have u0 := b9_; omega)) rfl rfl dX10_tape_50 (fun H locs hW hS => ?_)
            refine lv_aload_n hx hb dX10_tape_51 rfl (lv_at hl 0 rfl) ?_
            refine zget hx hb ht inlX10 hown hK hW 3 rfl rfl 73 (by decide) zm_213 rfl dX10_tape_52 ?_
            refine lv_iload_n hx hb dX10_tape_55 rfl (lv_at hl 1 rfl) ?_
            refine lv_iload_n hx hb dX10_tape_56 rfl (lv_at hl 2 rfl) ?_
            refine lv_if_ge (tgt := 64) hx hb dX10_tape_57 (by decide) (fun c24_ => absurd c24_ (by have z0 := b22_; have e0 : (0 : Int32).toInt = 0 := (by decide); rw [zi_le]; omega)) (fun c24_ => ?_)
            refine lv_iconst (v := 0) hx hb dX10_tape_60 (by decide) ?_
            refine lv_goto (tgt := 65) hx hb dX10_tape_61 (by decide) ?_
            refine ziast0 hx hb hK hS hW 1 rfl (vp_in_iff.mpr (by have u0 := b9_; omega)) (zupd0 _) dX10_tape_65 (fun H locs hW hS => ?_)
            refine lv_iconst (v := 0) hx hb dX10_tape_66 (by decide) ?_
            refine lv_istore (lv' := [(4, .int 0), (0, .ref a0), (1, .int p1), (2, .int p2), (3, .int p3)]) hx hb dX10_tape_67 hl (by decide) rfl (fun ls hl => ?_)
            obtain ⟨x25_, ex25_⟩ : ∃ z : Int32, z = 0 := ⟨_, rfl⟩
            obtain ⟨n69_, hI69_⟩ : ∃ n : Nat, (0 ≤ Int32.toInt x25_ ∧ Int32.toInt x25_ ≤ 60) ∧ (60 - Int32.toInt x25_ < (n : Int)) ∧ zPD D A [(a76, .inl (y 0, 6, .inl (upd (upd (upd (upd (upd (upd (upd (fun _ => 0) 0 (-1)) 1 (-1)) 2 (-1)) 3 (-1)) 4 (-1)) 5 (-1)) (Int32.toNatClampNeg p1) p2))), (a77, .inl (y 0, 6, .inl (fun _ => 0))), (a78, .inl (y 1, 360, .inr (.inl (fun _ => 0)))), (a0, .inr (9, [w4, w5, w6, w7, w8, w9, w10, w11, w12, w13, w14, w15, w16, w17, w18, w19, w20, w21, w22, w23, w24, w25, w26, w27, w28, w29, w30, w31, w32, w33, w34, w35, w36, w37, w38, w39, w40, w41, w42, w43, w44, w45, w46, w47, w48, w49, w50, w51, w52, w53, w54, w55, w56, w57, w58, w59, w60, w61, w62, w63, w64, w65, w66, w67, w68, w69, w70, w71, w72, w73, w74, w75, .ref a76, .ref a77, .ref a78, w79]))] H ∧ va_S A s.heap H locs ∧ lv_has ls 5 [(4, .int x25_), (0, .ref a0), (1, .int p1), (2, .int p2), (3, .int p3)] := ⟨(60 - Int32.toInt x25_ + 1).toNat, by rw [ex25_]; exact (by decide), by omega, by (try rw [ex25_]); exact hW, hS, by (try rw [ex25_]); exact hl⟩
            clear hW hS hl ex25_
            induction n69_ generalizing x25_ H locs ls with
            | zero => obtain ⟨bx25_, hn, -⟩ := hI69_; exact absurd hn (by omega)
            | succ n ih =>
              obtain ⟨bx25_, hn, hW, hS, hl⟩ := hI69_
              refine lv_iload hx hb dX10_tape_69 (lv_at hl 0 rfl) ?_
              refine lv_bipush (v := 60) hx hb dX10_tape_71 (by decide) ?_
              refine lv_icmp_ge (tgt := 95) hx hb dX10_tape_73 (by decide) (fun c26_ => ?_) (fun c26_ => ?_)
              · have b27_ : 60 ≤ Int32.toInt x25_ ∧ Int32.toInt x25_ ≤ 60 := (by have u0 := bx25_; have u1 := (zi_le _ _).mp c26_; have u2 : (60 : Int32).toInt = 60 := (by decide); omega)
                refine lv_iconst (v := 1) hx hb dX10_tape_95 (by decide) ?_
                exact zret_i (v := 1) hx hb hr hlocks hS () (by show _ = _; rw [if_neg c2_, if_neg c6_, if_neg c12_, if_neg c16_, if_pos c21_]) (hW.sub [] (by decide) rfl) (Nat.le_of_ble_eq_true rfl) (Nat.le_of_ble_eq_true rfl) dX10_tape_96
              · have b28_ : 0 ≤ Int32.toInt x25_ ∧ Int32.toInt x25_ ≤ 59 := (by have u0 := bx25_; have u1 := (not_congr (zi_le _ _)).mp c26_; have u2 : (60 : Int32).toInt = 60 := (by decide); omega)
                refine lv_aload_n hx hb dX10_tape_76 rfl (lv_at hl 1 rfl) ?_
                refine zget hx hb ht inlX10 hown hK hW 3 rfl rfl 74 (by decide) zm_214 rfl dX10_tape_77 ?_
                refine lv_bipush (v := 60) hx hb dX10_tape_80 (by decide) ?_
                refine lv_iload_n hx hb dX10_tape_82 rfl (lv_at hl 2 rfl) ?_
                refine lv_imul hx hb dX10_tape_83 ?_
                have b29_ : 0 ≤ Int32.toInt (60 * p1) ∧ Int32.toInt (60 * p1) ≤ 300 := by have u0 := (show (60 : Int32).toInt = 60 from (by decide)); have u1 := b9_; have u2 := zmul 60 p1 (by rw [u0]; omega) (by rw [u0]; omega); rw [u0] at u2; omega
                refine lv_iload hx hb dX10_tape_84 (lv_at hl 0 rfl) ?_
                refine lv_iadd hx hb dX10_tape_86 ?_
                have b30_ : 0 ≤ Int32.toInt ((60 * p1) + x25_) ∧ Int32.toInt ((60 * p1) + x25_) ≤ 359 := by have u0 := b29_; have u1 := b28_; have u2 := zadd (60 * p1) x25_ (by omega) (by omega); omega
                refine lv_lconst (v := 0) hx hb dX10_tape_87 (by decide) ?_
                refine zlast0 hx hb hK hS hW 2 rfl (vp_in_iff.mpr (by have u0 := b30_; omega)) (zupdL0 _) dX10_tape_88 (fun H locs hW hS => ?_)
                refine lv_iinc (k := 0) (v := (x25_ + 1)) (lv' := [(4, .int (x25_ + 1)), (0, .ref a0), (1, .int p1), (2, .int p2), (3, .int p3)]) hx hb dX10_tape_89 hl rfl (by rfl) (by decide) rfl (fun ls hl => ?_)
                refine lv_goto (tgt := 69) hx hb dX10_tape_92 (by decide) ?_
                have b31_ : 1 ≤ Int32.toInt (x25_ + 1) ∧ Int32.toInt (x25_ + 1) ≤ 60 := by have u0 := b28_; have u1 := zadd_1 x25_ (by omega); omega
                exact ih _ _ _ _ ⟨(by have u0 := b31_; omega), by have u0 := zadd_1 x25_ (by have u0 := b28_; omega); omega, hW, hS, (lv_sub hl [0, 1, 2, 3, 4] rfl)⟩
          · have b32_ : 0 ≤ Int32.toInt p2 ∧ Int32.toInt p2 ≤ 4 := (by have u0 := b19_; have u1 := (not_congr (zi_lt _ _)).mp c21_; have u2 : (0 : Int32).toInt = 0 := (by decide); omega)
            refine lv_iload_n hx hb dX10_tape_24 rfl (lv_at hl 3 rfl) ?_
            refine lv_bipush (v := 60) hx hb dX10_tape_25 (by decide) ?_
            refine lv_icmp_le (tgt := 33) hx hb dX10_tape_27 (by decide) (fun c33_ => ?_) (fun c33_ => ?_)
            · have b34_ : (-2147483648) ≤ Int32.toInt p3 ∧ Int32.toInt p3 ≤ 60 := (by have u0 := zbnd p3; have u1 := (zi_le _ _).mp c33_; have u2 : (60 : Int32).toInt = 60 := (by decide); omega)
              refine lv_iload_n hx hb dX10_tape_33 rfl (lv_at hl 2 rfl) ?_
              refine lv_if_lt (tgt := 44) hx hb dX10_tape_34 (by decide) (fun c35_ => absurd c35_ c21_) (fun c35_ => ?_)
              refine lv_iload_n hx hb dX10_tape_37 rfl (lv_at hl 3 rfl) ?_
              refine lv_if_ge (tgt := 44) hx hb dX10_tape_38 (by decide) (fun c36_ => ?_) (fun c36_ => ?_)
              · have b37_ : 0 ≤ Int32.toInt p3 ∧ Int32.toInt p3 ≤ 60 := (by have u0 := b34_; have u1 := (zi_le _ _).mp c36_; have u2 : (0 : Int32).toInt = 0 := (by decide); omega)
                refine lv_aload_n hx hb dX10_tape_44 rfl (lv_at hl 0 rfl) ?_
                refine zget hx hb ht inlX10 hown hK hW 3 rfl rfl 72 (by decide) zm_212 rfl dX10_tape_45 ?_
                refine lv_iload_n hx hb dX10_tape_48 rfl (lv_at hl 1 rfl) ?_
                refine lv_iload_n hx hb dX10_tape_49 rfl (lv_at hl 2 rfl) ?_
                refine ziast (ws' := [(a76, .inl (y 0, 6, .inl (upd (upd (upd (upd (upd (upd (upd (fun _ => 0) 0 (-1)) 1 (-1)) 2 (-1)) 3 (-1)) 4 (-1)) 5 (-1)) (Int32.toNatClampNeg p1) p2))), (a77, .inl (y 0, 6, .inl (fun _ => 0))), (a78, .inl (y 1, 360, .inr (.inl (fun _ => 0)))), (a0, .inr (9, [w4, w5, w6, w7, w8, w9, w10, w11, w12, w13, w14, w15, w16, w17, w18, w19, w20, w21, w22, w23, w24, w25, w26, w27, w28, w29, w30, w31, w32, w33, w34, w35, w36, w37, w38, w39, w40, w41, w42, w43, w44, w45, w46, w47, w48, w49, w50, w51, w52, w53, w54, w55, w56, w57, w58, w59, w60, w61, w62, w63, w64, w65, w66, w67, w68, w69, w70, w71, w72, w73, w74, w75, .ref a76, .ref a77, .ref a78, w79]))]) hx hb hK hS hW 0 rfl (vp_in_iff.mpr (by have u0 := b9_; omega)) rfl rfl dX10_tape_50 (fun H locs hW hS => ?_)
                refine lv_aload_n hx hb dX10_tape_51 rfl (lv_at hl 0 rfl) ?_
                refine zget hx hb ht inlX10 hown hK hW 3 rfl rfl 73 (by decide) zm_213 rfl dX10_tape_52 ?_
                refine lv_iload_n hx hb dX10_tape_55 rfl (lv_at hl 1 rfl) ?_
                refine lv_iload_n hx hb dX10_tape_56 rfl (lv_at hl 2 rfl) ?_
                refine lv_if_ge (tgt := 64) hx hb dX10_tape_57 (by decide) (fun c38_ => ?_) (fun c38_ => absurd (by have z0 := b32_; have e0 : (0 : Int32).toInt = 0 := (by decide); rw [zi_le]; omega) c38_)
                refine lv_iload_n hx hb dX10_tape_64 rfl (lv_at hl 3 rfl) ?_
                refine ziast (ws' := [(a76, .inl (y 0, 6, .inl (upd (upd (upd (upd (upd (upd (upd (fun _ => 0) 0 (-1)) 1 (-1)) 2 (-1)) 3 (-1)) 4 (-1)) 5 (-1)) (Int32.toNatClampNeg p1) p2))), (a77, .inl (y 0, 6, .inl (upd (fun _ => 0) (Int32.toNatClampNeg p1) p3))), (a78, .inl (y 1, 360, .inr (.inl (fun _ => 0)))), (a0, .inr (9, [w4, w5, w6, w7, w8, w9, w10, w11, w12, w13, w14, w15, w16, w17, w18, w19, w20, w21, w22, w23, w24, w25, w26, w27, w28, w29, w30, w31, w32, w33, w34, w35, w36, w37, w38, w39, w40, w41, w42, w43, w44, w45, w46, w47, w48, w49, w50, w51, w52, w53, w54, w55, w56, w57, w58, w59, w60, w61, w62, w63, w64, w65, w66, w67, w68, w69, w70, w71, w72, w73, w74, w75, .ref a76, .ref a77, .ref a78, w79]))]) hx hb hK hS hW 1 rfl (vp_in_iff.mpr (by have u0 := b9_; omega)) rfl rfl dX10_tape_65 (fun H locs hW hS => ?_)
                refine lv_iconst (v := 0) hx hb dX10_tape_66 (by decide) ?_
                refine lv_istore (lv' := [(4, .int 0), (0, .ref a0), (1, .int p1), (2, .int p2), (3, .int p3)]) hx hb dX10_tape_67 hl (by decide) rfl (fun ls hl => ?_)
                obtain ⟨x39_, ex39_⟩ : ∃ z : Int32, z = 0 := ⟨_, rfl⟩
                obtain ⟨n69_, hI69_⟩ : ∃ n : Nat, (0 ≤ Int32.toInt x39_ ∧ Int32.toInt x39_ ≤ 60) ∧ (60 - Int32.toInt x39_ < (n : Int)) ∧ zPD D A [(a76, .inl (y 0, 6, .inl (upd (upd (upd (upd (upd (upd (upd (fun _ => 0) 0 (-1)) 1 (-1)) 2 (-1)) 3 (-1)) 4 (-1)) 5 (-1)) (Int32.toNatClampNeg p1) p2))), (a77, .inl (y 0, 6, .inl (upd (fun _ => 0) (Int32.toNatClampNeg p1) p3))), (a78, .inl (y 1, 360, .inr (.inl (fun _ => 0)))), (a0, .inr (9, [w4, w5, w6, w7, w8, w9, w10, w11, w12, w13, w14, w15, w16, w17, w18, w19, w20, w21, w22, w23, w24, w25, w26, w27, w28, w29, w30, w31, w32, w33, w34, w35, w36, w37, w38, w39, w40, w41, w42, w43, w44, w45, w46, w47, w48, w49, w50, w51, w52, w53, w54, w55, w56, w57, w58, w59, w60, w61, w62, w63, w64, w65, w66, w67, w68, w69, w70, w71, w72, w73, w74, w75, .ref a76, .ref a77, .ref a78, w79]))] H ∧ va_S A s.heap H locs ∧ lv_has ls 5 [(4, .int x39_), (0, .ref a0), (1, .int p1), (2, .int p2), (3, .int p3)] := ⟨(60 - Int32.toInt x39_ + 1).toNat, by rw [ex39_]; exact (by decide), by omega, by (try rw [ex39_]); exact hW, hS, by (try rw [ex39_]); exact hl⟩
                clear hW hS hl ex39_
                induction n69_ generalizing x39_ H locs ls with
                | zero => obtain ⟨bx39_, hn, -⟩ := hI69_; exact absurd hn (by omega)
                | succ n ih =>
                  obtain ⟨bx39_, hn, hW, hS, hl⟩ := hI69_
                  refine lv_iload hx hb dX10_tape_69 (lv_at hl 0 rfl) ?_
                  refine lv_bipush (v := 60) hx hb dX10_tape_71 (by decide) ?_
                  refine lv_icmp_ge (tgt := 95) hx hb dX10_tape_73 (by decide) (fun c40_ => ?_) (fun c40_ => ?_)
                  · have b41_ : 60 ≤ Int32.toInt x39_ ∧ Int32.toInt x39_ ≤ 60 := (by have u0 := bx39_; have u1 := (zi_le _ _).mp c40_; have u2 : (60 : Int32).toInt = 60 := (by decide); omega)
                    refine lv_iconst (v := 1) hx hb dX10_tape_95 (by decide) ?_
                    exact zret_i (v := 1) hx hb hr hlocks hS () (by show _ = _; rw [if_neg c2_, if_neg c6_, if_neg c12_, if_neg c16_, if_neg c21_, if_pos c33_, if_pos c36_]) (hW.sub [] (by decide) rfl) (Nat.le_of_ble_eq_true rfl) (Nat.le_of_ble_eq_true rfl) dX10_tape_96
                  · have b42_ : 0 ≤ Int32.toInt x39_ ∧ Int32.toInt x39_ ≤ 59 := (by have u0 := bx39_; have u1 := (not_congr (zi_le _ _)).mp c40_; have u2 : (60 : Int32).toInt = 60 := (by decide); omega)
                    refine lv_aload_n hx hb dX10_tape_76 rfl (lv_at hl 1 rfl) ?_
                    refine zget hx hb ht inlX10 hown hK hW 3 rfl rfl 74 (by decide) zm_214 rfl dX10_tape_77 ?_
                    refine lv_bipush (v := 60) hx hb dX10_tape_80 (by decide) ?_
                    refine lv_iload_n hx hb dX10_tape_82 rfl (lv_at hl 2 rfl) ?_
                    refine lv_imul hx hb dX10_tape_83 ?_
                    have b43_ : 0 ≤ Int32.toInt (60 * p1) ∧ Int32.toInt (60 * p1) ≤ 300 := by have u0 := (show (60 : Int32).toInt = 60 from (by decide)); have u1 := b9_; have u2 := zmul 60 p1 (by rw [u0]; omega) (by rw [u0]; omega); rw [u0] at u2; omega
                    refine lv_iload hx hb dX10_tape_84 (lv_at hl 0 rfl) ?_
                    refine lv_iadd hx hb dX10_tape_86 ?_
                    have b44_ : 0 ≤ Int32.toInt ((60 * p1) + x39_) ∧ Int32.toInt ((60 * p1) + x39_) ≤ 359 := by have u0 := b43_; have u1 := b42_; have u2 := zadd (60 * p1) x39_ (by omega) (by omega); omega
                    refine lv_lconst (v := 0) hx hb dX10_tape_87 (by decide) ?_
                    refine zlast0 hx hb hK hS hW 2 rfl (vp_in_iff.mpr (by have u0 := b44_; omega)) (zupdL0 _) dX10_tape_88 (fun H locs hW hS => ?_)
                    refine lv_iinc (k := 0) (v := (x39_ + 1)) (lv' := [(4, .int (x39_ + 1)), (0, .ref a0), (1, .int p1), (2, .int p2), (3, .int p3)]) hx hb dX10_tape_89 hl rfl (by rfl) (by decide) rfl (fun ls hl => ?_)
                    refine lv_goto (tgt := 69) hx hb dX10_tape_92 (by decide) ?_
                    have b45_ : 1 ≤ Int32.toInt (x39_ + 1) ∧ Int32.toInt (x39_ + 1) ≤ 60 := by have u0 := b42_; have u1 := zadd_1 x39_ (by omega); omega
                    exact ih _ _ _ _ ⟨(by have u0 := b45_; omega), by have u0 := zadd_1 x39_ (by have u0 := b42_; omega); omega, hW, hS, (lv_sub hl [0, 1, 2, 3, 4] rfl)⟩
              · have b46_ : (-2147483648) ≤ Int32.toInt p3 ∧ Int32.toInt p3 ≤ (-1) := (by have u0 := b34_; have u1 := (not_congr (zi_le _ _)).mp c36_; have u2 : (0 : Int32).toInt = 0 := (by decide); omega)
                refine lv_bipush (v := (-14)) hx hb dX10_tape_41 (by decide) ?_
                exact zret_i (v := (-14)) hx hb hr hlocks hS () (by show _ = _; rw [if_neg c2_, if_neg c6_, if_neg c12_, if_neg c16_, if_neg c21_, if_pos c33_, if_neg c36_]) (hW.sub [] (by decide) rfl) (Nat.le_of_ble_eq_true rfl) (Nat.le_of_ble_eq_true rfl) dX10_tape_43
            · have b47_ : 61 ≤ Int32.toInt p3 ∧ Int32.toInt p3 ≤ 2147483647 := (by have u0 := zbnd p3; have u1 := (not_congr (zi_le _ _)).mp c33_; have u2 : (60 : Int32).toInt = 60 := (by decide); omega)
              refine lv_bipush (v := (-2)) hx hb dX10_tape_30 (by decide) ?_
              exact zret_i (v := (-2)) hx hb hr hlocks hS () (by show _ = _; rw [if_neg c2_, if_neg c6_, if_neg c12_, if_neg c16_, if_neg c21_, if_neg c33_]) (hW.sub [] (by decide) rfl) (Nat.le_of_ble_eq_true rfl) (Nat.le_of_ble_eq_true rfl) dX10_tape_32
set_option maxHeartbeats 8000000 in
set_option maxRecDepth 100000 in
theorem zc_X9_item_0 (l : Launch) (D : va_G) (y : Nat → ClassId) (a0 : Nat) (p1 : Int32) (p2 : Int32) (p3 : Int64) (w4 : Value) (w5 : Value) (w6 : Value) (w7 : Value) (w8 : Value) (w9 : Value) (w10 : Value) (w11 : Value) (a12 : Nat) (a13 : Nat) (a14 : Nat) (a15 : Nat) (a16 : Nat) (a17 : Nat) (a18 : Nat) (w19 : Value) (w20 : Value) (w21 : Value) (w22 : Value) (w23 : Value) (w24 : Value) (w25 : Value) (w26 : Value) (w27 : Value) (w28 : Value) (w29 : Value) (w30 : Value) : zM l D y yX9_item (Cond.code yX9_item cX9_item 6 (some .int) :: zT) { frames := 2, cells := 0, slots := 0, locals := 42 } [.ref a0, .int p1, .int p2, .long p3] [(a0, .inr (8, [w4, w5, w6, w7, w8, w9, w10, w11, .ref a12])), (a12, .inl (y 5, 6, .inr (.inr (.inr (.inr (va_up (va_up (va_up (va_up (va_up (va_up (fun _ => none) 0 (some a13)) 1 (some a14)) 2 (some a15)) 3 (some a16)) 4 (some a17)) 5 (some a18))))))), (a13, .inr (7, [.int (-1), w19, w20])), (a14, .inr (7, [.int (-1), w21, w22])), (a15, .inr (7, [.int (-1), w23, w24])), (a16, .inr (7, [.int (-1), w25, w26])), (a17, .inr (7, [.int (-1), w27, w28])), (a18, .inr (7, [.int (-1), w29, w30]))] (zQi (S := Unit) D (fun r_ _ => r_ = (if p1 < 0 then (-1) else (if 5 < p1 then (-1) else (-11)))) (fun _ => [])) := by
  refine zent (cc := cX9_item) (maxL := 6) (ret := (some .int)) (by decide) (Nat.le_of_ble_eq_true rfl) ?_
  intro p e s m below meth c A H locs ls hx hb hml hr ht hown hlocks hin hA hK hE hS hW hl
  have hown : s.vm.findClass RX9 = some m.cls := hown
  have hW : zPD D A [(a0, .inr (8, [w4, w5, w6, w7, w8, w9, w10, w11, .ref a12])), (a12, .inl (y 5, 6, .inr (.inr (.inr (.inr (va_up (va_up (va_up (va_up (va_up (va_up (fun _ => none) 0 (some a13)) 1 (some a14)) 2 (some a15)) 3 (some a16)) 4 (some a17)) 5 (some a18))))))), (a13, .inr (7, [.int (-1), w19, w20])), (a14, .inr (7, [.int (-1), w21, w22])), (a15, .inr (7, [.int (-1), w23, w24])), (a16, .inr (7, [.int (-1), w25, w26])), (a17, .inr (7, [.int (-1), w27, w28])), (a18, .inr (7, [.int (-1), w29, w30]))] H := hW
  have hl : lv_has ls 6 [(0, .ref a0), (1, .int p1), (2, .int p2), (3, .long p3)] := hl
  refine lv_iload_n hx hb dX9_item_0 rfl (lv_at hl 1 rfl) ?_
  refine zgo0_i (zrunS (As := [.int p1]) (rest := []) ⟨hx, hb, hml, hown, ht⟩ (zc_X9_isTape_0 l D y p1) (va_cwS 1 ht (zgS zm_1086 zm_1087 zm_2 zm_1088) rfl rfl rfl (by decide +kernel) ⟨(Nat.le_of_ble_eq_true rfl), (Nat.le_of_ble_eq_true rfl)⟩) hK hE hS hA hW [] (by decide) rfl rfl hl.1 rfl (Nat.le_of_ble_eq_true rfl) dX9_item_1 (Nat.le_of_ble_eq_true rfl) (Nat.le_of_ble_eq_true rfl)) hS hA hW (fun r1_ u H locs hw hW hS => ?_)
  have hw : r1_ = (if p1 < 0 then 0 else (if 5 < p1 then 0 else 1)) := hw
  by_cases c2_ : p1 < 0
  · have b3_ : (-2147483648) ≤ Int32.toInt p1 ∧ Int32.toInt p1 ≤ (-1) := (by have u0 := zbnd p1; have u1 := (zi_lt _ _).mp c2_; have u2 : (0 : Int32).toInt = 0 := (by decide); omega)
    rw [if_pos c2_] at hw
    subst hw
    refine lv_if_ne (tgt := 9) hx hb dX9_item_4 (by decide) (fun c4_ => absurd (by decide) c4_) (fun c4_ => ?_)
    refine lv_iconst (v := (-1)) hx hb dX9_item_7 (by decide) ?_
    exact zret_i (v := (-1)) hx hb hr hlocks hS () (by show _ = _; rw [if_pos c2_]) (hW.sub [] (by decide) rfl) (Nat.le_of_ble_eq_true rfl) (Nat.le_of_ble_eq_true rfl) dX9_item_8
  · have b5_ : 0 ≤ Int32.toInt p1 ∧ Int32.toInt p1 ≤ 2147483647 := (by have u0 := zbnd p1; have u1 := (not_congr (zi_lt _ _)).mp c2_; have u2 : (0 : Int32).toInt = 0 := (by decide); omega)
    rw [if_neg c2_] at hw
    by_cases c6_ : 5 < p1
    · have b7_ : 6 ≤ Int32.toInt p1 ∧ Int32.toInt p1 ≤ 2147483647 := (by have u0 := b5_; have u1 := (zi_lt _ _).mp c6_; have u2 : (5 : Int32).toInt = 5 := (by decide); omega)
      rw [if_pos c6_] at hw
      subst hw
      refine lv_if_ne (tgt := 9) hx hb dX9_item_4 (by decide) (fun c8_ => absurd (by decide) c8_) (fun c8_ => ?_)
      refine lv_iconst (v := (-1)) hx hb dX9_item_7 (by decide) ?_
      exact zret_i (v := (-1)) hx hb hr hlocks hS () (by show _ = _; rw [if_neg c2_, if_pos c6_]) (hW.sub [] (by decide) rfl) (Nat.le_of_ble_eq_true rfl) (Nat.le_of_ble_eq_true rfl) dX9_item_8
    · have b9_ : 0 ≤ Int32.toInt p1 ∧ Int32.toInt p1 ≤ 5 := (by have u0 := b5_; have u1 := (not_congr (zi_lt _ _)).mp c6_; have u2 : (5 : Int32).toInt = 5 := (by decide); omega)
      rw [if_neg c6_] at hw
      subst hw
      refine lv_if_ne (tgt := 9) hx hb dX9_item_4 (by decide) (fun c10_ => ?_) (fun c10_ => absurd c10_ (by decide))
      refine lv_aload_n hx hb dX9_item_9 rfl (lv_at hl 0 rfl) ?_
      refine zget hx hb ht inlX9 hown hK hW 0 rfl rfl 8 (by decide) zm_35 rfl dX9_item_10 ?_
      refine lv_iload_n hx hb dX9_item_13 rfl (lv_at hl 1 rfl) ?_
      by_cases c11_ : p1 = 0
      · have b12_ : 0 ≤ Int32.toInt p1 ∧ Int32.toInt p1 ≤ 0 := (by have u0 := b9_; have u1 := (zi_eq _ _).mp c11_; have u2 : (0 : Int32).toInt = 0 := (by decide); omega)
        refine ztop (w := .int 0) (congrArg Value.int c11_) ?_
        refine zaald (v := .ref a13) hx hb hK hW 1 5 rfl rfl (by unfold vp_in; decide) rfl dX9_item_14 ?_
        refine lv_astore (lv' := [(5, .ref a13), (0, .ref a0), (1, .int p1), (2, .int p2), (3, .long p3)]) hx hb dX9_item_15 hl (by decide) rfl (fun ls hl => ?_)
        refine lv_aload hx hb dX9_item_17 (lv_at hl 0 rfl) ?_
        refine zgo_i (wr := [(a0, .inr (8, [w4, w5, w6, w7, w8, w9, w10, w11, .ref a12])), (a12, .inl (y 5, 6, .inr (.inr (.inr (.inr (va_up (va_up (va_up (va_up (va_up (va_up (fun _ => none) 0 (some a13)) 1 (some a14)) 2 (some a15)) 3 (some a16)) 4 (some a17)) 5 (some a18))))))), (a14, .inr (7, [.int (-1), w21, w22])), (a15, .inr (7, [.int (-1), w23, w24])), (a16, .inr (7, [.int (-1), w25, w26])), (a17, .inr (7, [.int (-1), w27, w28])), (a18, .inr (7, [.int (-1), w29, w30]))]) (zrunV (As := []) (rest := []) ⟨hx, hb, hml, hown, ht⟩ (zc_X8_isNothing_0 l D y a13 w19 w20) (cwV 0 ht (zgV zm_1089 zm_1090 zm_1091 zm_39 zm_1092) rfl rfl rfl (by decide +kernel) ⟨(Nat.le_of_ble_eq_true rfl), (Nat.le_of_ble_eq_true rfl)⟩) hK hE hS hA hW [2] (by decide) rfl 0 rfl rfl rfl rfl hl.1 rfl (Nat.le_of_ble_eq_true rfl) dX9_item_19 (Nat.le_of_ble_eq_true rfl) (Nat.le_of_ble_eq_true rfl)) hS hA hW [2] [0, 1, 3, 4, 5, 6, 7] rfl rfl (by decide) (by decide) (fun r13_ u H locs hw hW hS => ?_)
        have hW : zPD D A [(a0, .inr (8, [w4, w5, w6, w7, w8, w9, w10, w11, .ref a12])), (a12, .inl (y 5, 6, .inr (.inr (.inr (.inr (va_up (va_up (va_up (va_up (va_up (va_up (fun _ => none) 0 (some a13)) 1 (some a14)) 2 (some a15)) 3 (some a16)) 4 (some a17)) 5 (some a18))))))), (a14, .inr (7, [.int (-1), w21, w22])), (a15, .inr (7, [.int (-1), w23, w24])), (a16, .inr (7, [.int (-1), w25, w26])), (a17, .inr (7, [.int (-1), w27, w28])), (a18, .inr (7, [.int (-1), w29, w30])), (a13, .inr (7, [.int (-1), w19, w20]))] H := hW
        have hw : r13_ = 1 := hw
        subst hw
        refine lv_if_eq (tgt := 28) hx hb dX9_item_22 (by decide) (fun c14_ => absurd c14_ (by decide)) (fun c14_ => ?_)
        refine lv_bipush (v := (-11)) hx hb dX9_item_25 (by decide) ?_
        exact zret_i (v := (-11)) hx hb hr hlocks hS () (by show _ = _; rw [if_neg c2_, if_neg c6_]) (hW.sub [] (by decide) rfl) (Nat.le_of_ble_eq_true rfl) (Nat.le_of_ble_eq_true rfl) dX9_item_27
      · have b15_ : 1 ≤ Int32.toInt p1 ∧ Int32.toInt p1 ≤ 5 := (by have u0 := b9_; have u1 := (not_congr (zi_eq _ _)).mp c11_; have u2 : (0 : Int32).toInt = 0 := (by decide); omega)
        by_cases c16_ : p1 = 1
        · have b17_ : 1 ≤ Int32.toInt p1 ∧ Int32.toInt p1 ≤ 1 := (by have u0 := b15_; have u1 := (zi_eq _ _).mp c16_; have u2 : (1 : Int32).toInt = 1 := (by decide); omega)
          refine ztop (w := .int 1) (congrArg Value.int c16_) ?_
          refine zaald (v := .ref a14) hx hb hK hW 1 5 rfl rfl (by unfold vp_in; decide) rfl dX9_item_14 ?_
          refine lv_astore (lv' := [(5, .ref a14), (0, .ref a0), (1, .int p1), (2, .int p2), (3, .long p3)]) hx hb dX9_item_15 hl (by decide) rfl (fun ls hl => ?_)
          refine lv_aload hx hb dX9_item_17 (lv_at hl 0 rfl) ?_
          refine zgo_i (wr := [(a0, .inr (8, [w4, w5, w6, w7, w8, w9, w10, w11, .ref a12])), (a12, .inl (y 5, 6, .inr (.inr (.inr (.inr (va_up (va_up (va_up (va_up (va_up (va_up (fun _ => none) 0 (some a13)) 1 (some a14)) 2 (some a15)) 3 (some a16)) 4 (some a17)) 5 (some a18))))))), (a13, .inr (7, [.int (-1), w19, w20])), (a15, .inr (7, [.int (-1), w23, w24])), (a16, .inr (7, [.int (-1), w25, w26])), (a17, .inr (7, [.int (-1), w27, w28])), (a18, .inr (7, [.int (-1), w29, w30]))]) (zrunV (As := []) (rest := []) ⟨hx, hb, hml, hown, ht⟩ (zc_X8_isNothing_0 l D y a14 w21 w22) (cwV 0 ht (zgV zm_1089 zm_1090 zm_1091 zm_39 zm_1092) rfl rfl rfl (by decide +kernel) ⟨(Nat.le_of_ble_eq_true rfl), (Nat.le_of_ble_eq_true rfl)⟩) hK hE hS hA hW [3] (by decide) rfl 0 rfl rfl rfl rfl hl.1 rfl (Nat.le_of_ble_eq_true rfl) dX9_item_19 (Nat.le_of_ble_eq_true rfl) (Nat.le_of_ble_eq_true rfl)) hS hA hW [3] [0, 1, 2, 4, 5, 6, 7] rfl rfl (by decide) (by decide) (fun r18_ u H locs hw hW hS => ?_)
          have hW : zPD D A [(a0, .inr (8, [w4, w5, w6, w7, w8, w9, w10, w11, .ref a12])), (a12, .inl (y 5, 6, .inr (.inr (.inr (.inr (va_up (va_up (va_up (va_up (va_up (va_up (fun _ => none) 0 (some a13)) 1 (some a14)) 2 (some a15)) 3 (some a16)) 4 (some a17)) 5 (some a18))))))), (a13, .inr (7, [.int (-1), w19, w20])), (a15, .inr (7, [.int (-1), w23, w24])), (a16, .inr (7, [.int (-1), w25, w26])), (a17, .inr (7, [.int (-1), w27, w28])), (a18, .inr (7, [.int (-1), w29, w30])), (a14, .inr (7, [.int (-1), w21, w22]))] H := hW
          have hw : r18_ = 1 := hw
          subst hw
          refine lv_if_eq (tgt := 28) hx hb dX9_item_22 (by decide) (fun c19_ => absurd c19_ (by decide)) (fun c19_ => ?_)
          refine lv_bipush (v := (-11)) hx hb dX9_item_25 (by decide) ?_
          exact zret_i (v := (-11)) hx hb hr hlocks hS () (by show _ = _; rw [if_neg c2_, if_neg c6_]) (hW.sub [] (by decide) rfl) (Nat.le_of_ble_eq_true rfl) (Nat.le_of_ble_eq_true rfl) dX9_item_27
        · have b20_ : 2 ≤ Int32.toInt p1 ∧ Int32.toInt p1 ≤ 5 := (by have u0 := b15_; have u1 := (not_congr (zi_eq _ _)).mp c16_; have u2 : (1 : Int32).toInt = 1 := (by decide); omega)
          by_cases c21_ : p1 = 2
          · have b22_ : 2 ≤ Int32.toInt p1 ∧ Int32.toInt p1 ≤ 2 := (by have u0 := b20_; have u1 := (zi_eq _ _).mp c21_; have u2 : (2 : Int32).toInt = 2 := (by decide); omega)
            refine ztop (w := .int 2) (congrArg Value.int c21_) ?_
            refine zaald (v := .ref a15) hx hb hK hW 1 5 rfl rfl (by unfold vp_in; decide) rfl dX9_item_14 ?_
            refine lv_astore (lv' := [(5, .ref a15), (0, .ref a0), (1, .int p1), (2, .int p2), (3, .long p3)]) hx hb dX9_item_15 hl (by decide) rfl (fun ls hl => ?_)
            refine lv_aload hx hb dX9_item_17 (lv_at hl 0 rfl) ?_
            refine zgo_i (wr := [(a0, .inr (8, [w4, w5, w6, w7, w8, w9, w10, w11, .ref a12])), (a12, .inl (y 5, 6, .inr (.inr (.inr (.inr (va_up (va_up (va_up (va_up (va_up (va_up (fun _ => none) 0 (some a13)) 1 (some a14)) 2 (some a15)) 3 (some a16)) 4 (some a17)) 5 (some a18))))))), (a13, .inr (7, [.int (-1), w19, w20])), (a14, .inr (7, [.int (-1), w21, w22])), (a16, .inr (7, [.int (-1), w25, w26])), (a17, .inr (7, [.int (-1), w27, w28])), (a18, .inr (7, [.int (-1), w29, w30]))]) (zrunV (As := []) (rest := []) ⟨hx, hb, hml, hown, ht⟩ (zc_X8_isNothing_0 l D y a15 w23 w24) (cwV 0 ht (zgV zm_1089 zm_1090 zm_1091 zm_39 zm_1092) rfl rfl rfl (by decide +kernel) ⟨(Nat.le_of_ble_eq_true rfl), (Nat.le_of_ble_eq_true rfl)⟩) hK hE hS hA hW [4] (by decide) rfl 0 rfl rfl rfl rfl hl.1 rfl (Nat.le_of_ble_eq_true rfl) dX9_item_19 (Nat.le_of_ble_eq_true rfl) (Nat.le_of_ble_eq_true rfl)) hS hA hW [4] [0, 1, 2, 3, 5, 6, 7] rfl rfl (by decide) (by decide) (fun r23_ u H locs hw hW hS => ?_)
            have hW : zPD D A [(a0, .inr (8, [w4, w5, w6, w7, w8, w9, w10, w11, .ref a12])), (a12, .inl (y 5, 6, .inr (.inr (.inr (.inr (va_up (va_up (va_up (va_up (va_up (va_up (fun _ => none) 0 (some a13)) 1 (some a14)) 2 (some a15)) 3 (some a16)) 4 (some a17)) 5 (some a18))))))), (a13, .inr (7, [.int (-1), w19, w20])), (a14, .inr (7, [.int (-1), w21, w22])), (a16, .inr (7, [.int (-1), w25, w26])), (a17, .inr (7, [.int (-1), w27, w28])), (a18, .inr (7, [.int (-1), w29, w30])), (a15, .inr (7, [.int (-1), w23, w24]))] H := hW
            have hw : r23_ = 1 := hw
            subst hw
            refine lv_if_eq (tgt := 28) hx hb dX9_item_22 (by decide) (fun c24_ => absurd c24_ (by decide)) (fun c24_ => ?_)
            refine lv_bipush (v := (-11)) hx hb dX9_item_25 (by decide) ?_
            exact zret_i (v := (-11)) hx hb hr hlocks hS () (by show _ = _; rw [if_neg c2_, if_neg c6_]) (hW.sub [] (by decide) rfl) (Nat.le_of_ble_eq_true rfl) (Nat.le_of_ble_eq_true rfl) dX9_item_27
          · have b25_ : 3 ≤ Int32.toInt p1 ∧ Int32.toInt p1 ≤ 5 := (by have u0 := b20_; have u1 := (not_congr (zi_eq _ _)).mp c21_; have u2 : (2 : Int32).toInt = 2 := (by decide); omega)
            by_cases c26_ : p1 = 3
            · have b27_ : 3 ≤ Int32.toInt p1 ∧ Int32.toInt p1 ≤ 3 := (by have u0 := b25_; have u1 := (zi_eq _ _).mp c26_; have u2 : (3 : Int32).toInt = 3 := (by decide); omega)
              refine ztop (w := .int 3) (congrArg Value.int c26_) ?_
              refine zaald (v := .ref a16) hx hb hK hW 1 5 rfl rfl (by unfold vp_in; decide) rfl dX9_item_14 ?_
              refine lv_astore (lv' := [(5, .ref a16), (0, .ref a0), (1, .int p1), (2, .int p2), (3, .long p3)]) hx hb dX9_item_15 hl (by decide) rfl (fun ls hl => ?_)
              refine lv_aload hx hb dX9_item_17 (lv_at hl 0 rfl) ?_
              refine zgo_i (wr := [(a0, .inr (8, [w4, w5, w6, w7, w8, w9, w10, w11, .ref a12])), (a12, .inl (y 5, 6, .inr (.inr (.inr (.inr (va_up (va_up (va_up (va_up (va_up (va_up (fun _ => none) 0 (some a13)) 1 (some a14)) 2 (some a15)) 3 (some a16)) 4 (some a17)) 5 (some a18))))))), (a13, .inr (7, [.int (-1), w19, w20])), (a14, .inr (7, [.int (-1), w21, w22])), (a15, .inr (7, [.int (-1), w23, w24])), (a17, .inr (7, [.int (-1), w27, w28])), (a18, .inr (7, [.int (-1), w29, w30]))]) (zrunV (As := []) (rest := []) ⟨hx, hb, hml, hown, ht⟩ (zc_X8_isNothing_0 l D y a16 w25 w26) (cwV 0 ht (zgV zm_1089 zm_1090 zm_1091 zm_39 zm_1092) rfl rfl rfl (by decide +kernel) ⟨(Nat.le_of_ble_eq_true rfl), (Nat.le_of_ble_eq_true rfl)⟩) hK hE hS hA hW [5] (by decide) rfl 0 rfl rfl rfl rfl hl.1 rfl (Nat.le_of_ble_eq_true rfl) dX9_item_19 (Nat.le_of_ble_eq_true rfl) (Nat.le_of_ble_eq_true rfl)) hS hA hW [5] [0, 1, 2, 3, 4, 6, 7] rfl rfl (by decide) (by decide) (fun r28_ u H locs hw hW hS => ?_)
              have hW : zPD D A [(a0, .inr (8, [w4, w5, w6, w7, w8, w9, w10, w11, .ref a12])), (a12, .inl (y 5, 6, .inr (.inr (.inr (.inr (va_up (va_up (va_up (va_up (va_up (va_up (fun _ => none) 0 (some a13)) 1 (some a14)) 2 (some a15)) 3 (some a16)) 4 (some a17)) 5 (some a18))))))), (a13, .inr (7, [.int (-1), w19, w20])), (a14, .inr (7, [.int (-1), w21, w22])), (a15, .inr (7, [.int (-1), w23, w24])), (a17, .inr (7, [.int (-1), w27, w28])), (a18, .inr (7, [.int (-1), w29, w30])), (a16, .inr (7, [.int (-1), w25, w26]))] H := hW
              have hw : r28_ = 1 := hw
              subst hw
              refine lv_if_eq (tgt := 28) hx hb dX9_item_22 (by decide) (fun c29_ => absurd c29_ (by decide)) (fun c29_ => ?_)
              refine lv_bipush (v := (-11)) hx hb dX9_item_25 (by decide) ?_
              exact zret_i (v := (-11)) hx hb hr hlocks hS () (by show _ = _; rw [if_neg c2_, if_neg c6_]) (hW.sub [] (by decide) rfl) (Nat.le_of_ble_eq_true rfl) (Nat.le_of_ble_eq_true rfl) dX9_item_27
            · have b30_ : 4 ≤ Int32.toInt p1 ∧ Int32.toInt p1 ≤ 5 := (by have u0 := b25_; have u1 := (not_congr (zi_eq _ _)).mp c26_; have u2 : (3 : Int32).toInt = 3 := (by decide); omega)
              by_cases c31_ : p1 = 4
              · have b32_ : 4 ≤ Int32.toInt p1 ∧ Int32.toInt p1 ≤ 4 := (by have u0 := b30_; have u1 := (zi_eq _ _).mp c31_; have u2 : (4 : Int32).toInt = 4 := (by decide); omega)
                refine ztop (w := .int 4) (congrArg Value.int c31_) ?_
                refine zaald (v := .ref a17) hx hb hK hW 1 5 rfl rfl (by unfold vp_in; decide) rfl dX9_item_14 ?_
                refine lv_astore (lv' := [(5, .ref a17), (0, .ref a0), (1, .int p1), (2, .int p2), (3, .long p3)]) hx hb dX9_item_15 hl (by decide) rfl (fun ls hl => ?_)
                refine lv_aload hx hb dX9_item_17 (lv_at hl 0 rfl) ?_
                refine zgo_i (wr := [(a0, .inr (8, [w4, w5, w6, w7, w8, w9, w10, w11, .ref a12])), (a12, .inl (y 5, 6, .inr (.inr (.inr (.inr (va_up (va_up (va_up (va_up (va_up (va_up (fun _ => none) 0 (some a13)) 1 (some a14)) 2 (some a15)) 3 (some a16)) 4 (some a17)) 5 (some a18))))))), (a13, .inr (7, [.int (-1), w19, w20])), (a14, .inr (7, [.int (-1), w21, w22])), (a15, .inr (7, [.int (-1), w23, w24])), (a16, .inr (7, [.int (-1), w25, w26])), (a18, .inr (7, [.int (-1), w29, w30]))]) (zrunV (As := []) (rest := []) ⟨hx, hb, hml, hown, ht⟩ (zc_X8_isNothing_0 l D y a17 w27 w28) (cwV 0 ht (zgV zm_1089 zm_1090 zm_1091 zm_39 zm_1092) rfl rfl rfl (by decide +kernel) ⟨(Nat.le_of_ble_eq_true rfl), (Nat.le_of_ble_eq_true rfl)⟩) hK hE hS hA hW [6] (by decide) rfl 0 rfl rfl rfl rfl hl.1 rfl (Nat.le_of_ble_eq_true rfl) dX9_item_19 (Nat.le_of_ble_eq_true rfl) (Nat.le_of_ble_eq_true rfl)) hS hA hW [6] [0, 1, 2, 3, 4, 5, 7] rfl rfl (by decide) (by decide) (fun r33_ u H locs hw hW hS => ?_)
                have hW : zPD D A [(a0, .inr (8, [w4, w5, w6, w7, w8, w9, w10, w11, .ref a12])), (a12, .inl (y 5, 6, .inr (.inr (.inr (.inr (va_up (va_up (va_up (va_up (va_up (va_up (fun _ => none) 0 (some a13)) 1 (some a14)) 2 (some a15)) 3 (some a16)) 4 (some a17)) 5 (some a18))))))), (a13, .inr (7, [.int (-1), w19, w20])), (a14, .inr (7, [.int (-1), w21, w22])), (a15, .inr (7, [.int (-1), w23, w24])), (a16, .inr (7, [.int (-1), w25, w26])), (a18, .inr (7, [.int (-1), w29, w30])), (a17, .inr (7, [.int (-1), w27, w28]))] H := hW
                have hw : r33_ = 1 := hw
                subst hw
                refine lv_if_eq (tgt := 28) hx hb dX9_item_22 (by decide) (fun c34_ => absurd c34_ (by decide)) (fun c34_ => ?_)
                refine lv_bipush (v := (-11)) hx hb dX9_item_25 (by decide) ?_
                exact zret_i (v := (-11)) hx hb hr hlocks hS () (by show _ = _; rw [if_neg c2_, if_neg c6_]) (hW.sub [] (by decide) rfl) (Nat.le_of_ble_eq_true rfl) (Nat.le_of_ble_eq_true rfl) dX9_item_27
              · have b35_ : 5 ≤ Int32.toInt p1 ∧ Int32.toInt p1 ≤ 5 := (by have u0 := b30_; have u1 := (not_congr (zi_eq _ _)).mp c31_; have u2 : (4 : Int32).toInt = 4 := (by decide); omega)
                refine ztop (w := .int 5) (congrArg Value.int ((zi_eq _ _).mpr (by have u0 := b35_; have u1 : (5 : Int32).toInt = 5 := (by decide); omega))) ?_
                refine zaald (v := .ref a18) hx hb hK hW 1 5 rfl rfl (by unfold vp_in; decide) rfl dX9_item_14 ?_
                refine lv_astore (lv' := [(5, .ref a18), (0, .ref a0), (1, .int p1), (2, .int p2), (3, .long p3)]) hx hb dX9_item_15 hl (by decide) rfl (fun ls hl => ?_)
                refine lv_aload hx hb dX9_item_17 (lv_at hl 0 rfl) ?_
                refine zgo_i (wr := [(a0, .inr (8, [w4, w5, w6, w7, w8, w9, w10, w11, .ref a12])), (a12, .inl (y 5, 6, .inr (.inr (.inr (.inr (va_up (va_up (va_up (va_up (va_up (va_up (fun _ => none) 0 (some a13)) 1 (some a14)) 2 (some a15)) 3 (some a16)) 4 (some a17)) 5 (some a18))))))), (a13, .inr (7, [.int (-1), w19, w20])), (a14, .inr (7, [.int (-1), w21, w22])), (a15, .inr (7, [.int (-1), w23, w24])), (a16, .inr (7, [.int (-1), w25, w26])), (a17, .inr (7, [.int (-1), w27, w28]))]) (zrunV (As := []) (rest := []) ⟨hx, hb, hml, hown, ht⟩ (zc_X8_isNothing_0 l D y a18 w29 w30) (cwV 0 ht (zgV zm_1089 zm_1090 zm_1091 zm_39 zm_1092) rfl rfl rfl (by decide +kernel) ⟨(Nat.le_of_ble_eq_true rfl), (Nat.le_of_ble_eq_true rfl)⟩) hK hE hS hA hW [7] (by decide) rfl 0 rfl rfl rfl rfl hl.1 rfl (Nat.le_of_ble_eq_true rfl) dX9_item_19 (Nat.le_of_ble_eq_true rfl) (Nat.le_of_ble_eq_true rfl)) hS hA hW [7] [0, 1, 2, 3, 4, 5, 6] rfl rfl (by decide) (by decide) (fun r36_ u H locs hw hW hS => ?_)
                have hW : zPD D A [(a0, .inr (8, [w4, w5, w6, w7, w8, w9, w10, w11, .ref a12])), (a12, .inl (y 5, 6, .inr (.inr (.inr (.inr (va_up (va_up (va_up (va_up (va_up (va_up (fun _ => none) 0 (some a13)) 1 (some a14)) 2 (some a15)) 3 (some a16)) 4 (some a17)) 5 (some a18))))))), (a13, .inr (7, [.int (-1), w19, w20])), (a14, .inr (7, [.int (-1), w21, w22])), (a15, .inr (7, [.int (-1), w23, w24])), (a16, .inr (7, [.int (-1), w25, w26])), (a17, .inr (7, [.int (-1), w27, w28])), (a18, .inr (7, [.int (-1), w29, w30]))] H := hW
                have hw : r36_ = 1 := hw
                subst hw
                refine lv_if_eq (tgt := 28) hx hb dX9_item_22 (by decide) (fun c37_ => absurd c37_ (by decide)) (fun c37_ => ?_)
                refine lv_bipush (v := (-11)) hx hb dX9_item_25 (by decide) ?_
                exact zret_i (v := (-11)) hx hb hr hlocks hS () (by show _ = _; rw [if_neg c2_, if_neg c6_]) (hW.sub [] (by decide) rfl) (Nat.le_of_ble_eq_true rfl) (Nat.le_of_ble_eq_true rfl) dX9_item_27
set_option maxHeartbeats 8000000 in
set_option maxRecDepth 100000 in
theorem zc_X10_item_0 (l : Launch) (D : va_G) (y : Nat → ClassId) (a0 : Nat) (p1 : Int32) (p2 : Int32) (p3 : Int64) (w4 : Value) (w5 : Value) (w6 : Value) (w7 : Value) (w8 : Value) (w9 : Value) (w10 : Value) (w11 : Value) (w12 : Value) (w13 : Value) (w14 : Value) (w15 : Value) (w16 : Value) (w17 : Value) (w18 : Value) (w19 : Value) (w20 : Value) (w21 : Value) (w22 : Value) (w23 : Value) (w24 : Value) (w25 : Value) (w26 : Value) (w27 : Value) (w28 : Value) (w29 : Value) (w30 : Value) (w31 : Value) (w32 : Value) (w33 : Value) (w34 : Value) (w35 : Value) (w36 : Value) (w37 : Value) (w38 : Value) (w39 : Value) (w40 : Value) (w41 : Value) (w42 : Value) (w43 : Value) (w44 : Value) (w45 : Value) (w46 : Value) (w47 : Value) (w48 : Value) (w49 : Value) (w50 : Value) (w51 : Value) (w52 : Value) (w53 : Value) (w54 : Value) (w55 : Value) (w56 : Value) (w57 : Value) (w58 : Value) (w59 : Value) (w60 : Value) (w61 : Value) (w62 : Value) (w63 : Value) (w64 : Value) (w65 : Value) (w66 : Value) (w67 : Value) (w68 : Value) (w69 : Value) (w70 : Value) (w71 : Value) (w72 : Value) (w73 : Value) (w74 : Value) (w75 : Value) (a76 : Nat) (w77 : Value) (w78 : Value) (w79 : Value) : zM l D y yX10_item (Cond.code yX10_item cX10_item 5 (some .int) :: zT) { frames := 2, cells := 0, slots := 0, locals := 44 } [.ref a0, .int p1, .int p2, .long p3] [(a0, .inr (9, [w4, w5, w6, w7, w8, w9, w10, w11, w12, w13, w14, w15, w16, w17, w18, w19, w20, w21, w22, w23, w24, w25, w26, w27, w28, w29, w30, w31, w32, w33, w34, w35, w36, w37, w38, w39, w40, w41, w42, w43, w44, w45, w46, w47, w48, w49, w50, w51, w52, w53, w54, w55, w56, w57, w58, w59, w60, w61, w62, w63, w64, w65, w66, w67, w68, w69, w70, w71, w72, w73, w74, w75, .ref a76, w77, w78, w79])), (a76, .inl (y 0, 6, .inl (upd (upd (upd (upd (upd (upd (fun _ => 0) 0 (-1)) 1 (-1)) 2 (-1)) 3 (-1)) 4 (-1)) 5 (-1))))] (zQi (S := Unit) D (fun r_ _ => r_ = (if p1 < 0 then (-1) else (if 5 < p1 then (-1) else (-11)))) (fun _ => [])) := by
  refine zent (cc := cX10_item) (maxL := 5) (ret := (some .int)) (by decide) (Nat.le_of_ble_eq_true rfl) ?_
  intro p e s m below meth c A H locs ls hx hb hml hr ht hown hlocks hin hA hK hE hS hW hl
  have hown : s.vm.findClass RX10 = some m.cls := hown
  have hW : zPD D A [(a0, .inr (9, [w4, w5, w6, w7, w8, w9, w10, w11, w12, w13, w14, w15, w16, w17, w18, w19, w20, w21, w22, w23, w24, w25, w26, w27, w28, w29, w30, w31, w32, w33, w34, w35, w36, w37, w38, w39, w40, w41, w42, w43, w44, w45, w46, w47, w48, w49, w50, w51, w52, w53, w54, w55, w56, w57, w58, w59, w60, w61, w62, w63, w64, w65, w66, w67, w68, w69, w70, w71, w72, w73, w74, w75, .ref a76, w77, w78, w79])), (a76, .inl (y 0, 6, .inl (upd (upd (upd (upd (upd (upd (fun _ => 0) 0 (-1)) 1 (-1)) 2 (-1)) 3 (-1)) 4 (-1)) 5 (-1))))] H := hW
  have hl : lv_has ls 5 [(0, .ref a0), (1, .int p1), (2, .int p2), (3, .long p3)] := hl
  refine lv_aload_n hx hb dX10_item_0 rfl (lv_at hl 0 rfl) ?_
  refine lv_iload_n hx hb dX10_item_1 rfl (lv_at hl 1 rfl) ?_
  refine zgo_i (wr := [(a76, .inl (y 0, 6, .inl (upd (upd (upd (upd (upd (upd (fun _ => 0) 0 (-1)) 1 (-1)) 2 (-1)) 3 (-1)) 4 (-1)) 5 (-1))))]) (zrunV (As := [.int p1]) (rest := []) ⟨hx, hb, hml, hown, ht⟩ (zc_X10_isTape_0 l D y a0 p1 w4 w5 w6 w7 w8 w9 w10 w11 w12 w13 w14 w15 w16 w17 w18 w19 w20 w21 w22 w23 w24 w25 w26 w27 w28 w29 w30 w31 w32 w33 w34 w35 w36 w37 w38 w39 w40 w41 w42 w43 w44 w45 w46 w47 w48 w49 w50 w51 w52 w53 w54 w55 w56 w57 w58 w59 w60 w61 w62 w63 w64 w65 w66 w67 w68 w69 w70 w71 w72 w73 w74 w75 (.ref a76) w77 w78 w79) (cwV 1 ht (zgV zm_1097 zm_1098 zm_1099 zm_5 zm_1100) rfl rfl rfl (by decide +kernel) ⟨(Nat.le_of_ble_eq_true rfl), (Nat.le_of_ble_eq_true rfl)⟩) hK hE hS hA hW [0] (by decide) rfl 0 rfl rfl rfl rfl hl.1 rfl (Nat.le_of_ble_eq_true rfl) dX10_item_2 (Nat.le_of_ble_eq_true rfl) (Nat.le_of_ble_eq_true rfl)) hS hA hW [0] [1] rfl rfl (by decide) (by decide) (fun r1_ u H locs hw hW hS => ?_)
  have hW : zPD D A [(a76, .inl (y 0, 6, .inl (upd (upd (upd (upd (upd (upd (fun _ => 0) 0 (-1)) 1 (-1)) 2 (-1)) 3 (-1)) 4 (-1)) 5 (-1)))), (a0, .inr (9, [w4, w5, w6, w7, w8, w9, w10, w11, w12, w13, w14, w15, w16, w17, w18, w19, w20, w21, w22, w23, w24, w25, w26, w27, w28, w29, w30, w31, w32, w33, w34, w35, w36, w37, w38, w39, w40, w41, w42, w43, w44, w45, w46, w47, w48, w49, w50, w51, w52, w53, w54, w55, w56, w57, w58, w59, w60, w61, w62, w63, w64, w65, w66, w67, w68, w69, w70, w71, w72, w73, w74, w75, .ref a76, w77, w78, w79]))] H := hW
  have hw : r1_ = (if p1 < 0 then 0 else (if 5 < p1 then 0 else 1)) := hw
  by_cases c2_ : p1 < 0
  · have b3_ : (-2147483648) ≤ Int32.toInt p1 ∧ Int32.toInt p1 ≤ (-1) := (by have u0 := zbnd p1; have u1 := (zi_lt _ _).mp c2_; have u2 : (0 : Int32).toInt = 0 := (by decide); omega)
    rw [if_pos c2_] at hw
    subst hw
    refine lv_if_ne (tgt := 10) hx hb dX10_item_5 (by decide) (fun c4_ => absurd (by decide) c4_) (fun c4_ => ?_)
    refine lv_iconst (v := (-1)) hx hb dX10_item_8 (by decide) ?_
    exact zret_i (v := (-1)) hx hb hr hlocks hS () (by show _ = _; rw [if_pos c2_]) (hW.sub [] (by decide) rfl) (Nat.le_of_ble_eq_true rfl) (Nat.le_of_ble_eq_true rfl) dX10_item_9
  · have b5_ : 0 ≤ Int32.toInt p1 ∧ Int32.toInt p1 ≤ 2147483647 := (by have u0 := zbnd p1; have u1 := (not_congr (zi_lt _ _)).mp c2_; have u2 : (0 : Int32).toInt = 0 := (by decide); omega)
    rw [if_neg c2_] at hw
    by_cases c6_ : 5 < p1
    · have b7_ : 6 ≤ Int32.toInt p1 ∧ Int32.toInt p1 ≤ 2147483647 := (by have u0 := b5_; have u1 := (zi_lt _ _).mp c6_; have u2 : (5 : Int32).toInt = 5 := (by decide); omega)
      rw [if_pos c6_] at hw
      subst hw
      refine lv_if_ne (tgt := 10) hx hb dX10_item_5 (by decide) (fun c8_ => absurd (by decide) c8_) (fun c8_ => ?_)
      refine lv_iconst (v := (-1)) hx hb dX10_item_8 (by decide) ?_
      exact zret_i (v := (-1)) hx hb hr hlocks hS () (by show _ = _; rw [if_neg c2_, if_pos c6_]) (hW.sub [] (by decide) rfl) (Nat.le_of_ble_eq_true rfl) (Nat.le_of_ble_eq_true rfl) dX10_item_9
    · have b9_ : 0 ≤ Int32.toInt p1 ∧ Int32.toInt p1 ≤ 5 := (by have u0 := b5_; have u1 := (not_congr (zi_lt _ _)).mp c6_; have u2 : (5 : Int32).toInt = 5 := (by decide); omega)
      rw [if_neg c6_] at hw
      subst hw
      refine lv_if_ne (tgt := 10) hx hb dX10_item_5 (by decide) (fun c10_ => ?_) (fun c10_ => absurd c10_ (by decide))
      refine lv_aload_n hx hb dX10_item_10 rfl (lv_at hl 0 rfl) ?_
      refine zget hx hb ht inlX10 hown hK hW 1 rfl rfl 72 (by decide) zm_212 rfl dX10_item_11 ?_
      refine lv_iload_n hx hb dX10_item_14 rfl (lv_at hl 1 rfl) ?_
      by_cases c11_ : p1 = 0
      · have b12_ : 0 ≤ Int32.toInt p1 ∧ Int32.toInt p1 ≤ 0 := (by have u0 := b9_; have u1 := (zi_eq _ _).mp c11_; have u2 : (0 : Int32).toInt = 0 := (by decide); omega)
        refine ztop (w := .int 0) (congrArg Value.int c11_) ?_
        refine ziald (v := (-1)) hx hb hK hW 0 rfl (by unfold vp_in; decide) rfl dX10_item_15 ?_
        refine lv_if_ge (tgt := 22) hx hb dX10_item_16 (by decide) (fun c13_ => absurd c13_ (by decide)) (fun c13_ => ?_)
        refine lv_bipush (v := (-11)) hx hb dX10_item_19 (by decide) ?_
        exact zret_i (v := (-11)) hx hb hr hlocks hS () (by show _ = _; rw [if_neg c2_, if_neg c6_]) (hW.sub [] (by decide) rfl) (Nat.le_of_ble_eq_true rfl) (Nat.le_of_ble_eq_true rfl) dX10_item_21
      · have b14_ : 1 ≤ Int32.toInt p1 ∧ Int32.toInt p1 ≤ 5 := (by have u0 := b9_; have u1 := (not_congr (zi_eq _ _)).mp c11_; have u2 : (0 : Int32).toInt = 0 := (by decide); omega)
        by_cases c15_ : p1 = 1
        · have b16_ : 1 ≤ Int32.toInt p1 ∧ Int32.toInt p1 ≤ 1 := (by have u0 := b14_; have u1 := (zi_eq _ _).mp c15_; have u2 : (1 : Int32).toInt = 1 := (by decide); omega)
          refine ztop (w := .int 1) (congrArg Value.int c15_) ?_
          refine ziald (v := (-1)) hx hb hK hW 0 rfl (by unfold vp_in; decide) rfl dX10_item_15 ?_
          refine lv_if_ge (tgt := 22) hx hb dX10_item_16 (by decide) (fun c17_ => absurd c17_ (by decide)) (fun c17_ => ?_)
          refine lv_bipush (v := (-11)) hx hb dX10_item_19 (by decide) ?_
          exact zret_i (v := (-11)) hx hb hr hlocks hS () (by show _ = _; rw [if_neg c2_, if_neg c6_]) (hW.sub [] (by decide) rfl) (Nat.le_of_ble_eq_true rfl) (Nat.le_of_ble_eq_true rfl) dX10_item_21
        · have b18_ : 2 ≤ Int32.toInt p1 ∧ Int32.toInt p1 ≤ 5 := (by have u0 := b14_; have u1 := (not_congr (zi_eq _ _)).mp c15_; have u2 : (1 : Int32).toInt = 1 := (by decide); omega)
          by_cases c19_ : p1 = 2
          · have b20_ : 2 ≤ Int32.toInt p1 ∧ Int32.toInt p1 ≤ 2 := (by have u0 := b18_; have u1 := (zi_eq _ _).mp c19_; have u2 : (2 : Int32).toInt = 2 := (by decide); omega)
            refine ztop (w := .int 2) (congrArg Value.int c19_) ?_
            refine ziald (v := (-1)) hx hb hK hW 0 rfl (by unfold vp_in; decide) rfl dX10_item_15 ?_
            refine lv_if_ge (tgt := 22) hx hb dX10_item_16 (by decide) (fun c21_ => absurd c21_ (by decide)) (fun c21_ => ?_)
            refine lv_bipush (v := (-11)) hx hb dX10_item_19 (by decide) ?_
            exact zret_i (v := (-11)) hx hb hr hlocks hS () (by show _ = _; rw [if_neg c2_, if_neg c6_]) (hW.sub [] (by decide) rfl) (Nat.le_of_ble_eq_true rfl) (Nat.le_of_ble_eq_true rfl) dX10_item_21
          · have b22_ : 3 ≤ Int32.toInt p1 ∧ Int32.toInt p1 ≤ 5 := (by have u0 := b18_; have u1 := (not_congr (zi_eq _ _)).mp c19_; have u2 : (2 : Int32).toInt = 2 := (by decide); omega)
            by_cases c23_ : p1 = 3
            · have b24_ : 3 ≤ Int32.toInt p1 ∧ Int32.toInt p1 ≤ 3 := (by have u0 := b22_; have u1 := (zi_eq _ _).mp c23_; have u2 : (3 : Int32).toInt = 3 := (by decide); omega)
              refine ztop (w := .int 3) (congrArg Value.int c23_) ?_
              refine ziald (v := (-1)) hx hb hK hW 0 rfl (by unfold vp_in; decide) rfl dX10_item_15 ?_
              refine lv_if_ge (tgt := 22) hx hb dX10_item_16 (by decide) (fun c25_ => absurd c25_ (by decide)) (fun c25_ => ?_)
              refine lv_bipush (v := (-11)) hx hb dX10_item_19 (by decide) ?_
              exact zret_i (v := (-11)) hx hb hr hlocks hS () (by show _ = _; rw [if_neg c2_, if_neg c6_]) (hW.sub [] (by decide) rfl) (Nat.le_of_ble_eq_true rfl) (Nat.le_of_ble_eq_true rfl) dX10_item_21
            · have b26_ : 4 ≤ Int32.toInt p1 ∧ Int32.toInt p1 ≤ 5 := (by have u0 := b22_; have u1 := (not_congr (zi_eq _ _)).mp c23_; have u2 : (3 : Int32).toInt = 3 := (by decide); omega)
              by_cases c27_ : p1 = 4
              · have b28_ : 4 ≤ Int32.toInt p1 ∧ Int32.toInt p1 ≤ 4 := (by have u0 := b26_; have u1 := (zi_eq _ _).mp c27_; have u2 : (4 : Int32).toInt = 4 := (by decide); omega)
                refine ztop (w := .int 4) (congrArg Value.int c27_) ?_
                refine ziald (v := (-1)) hx hb hK hW 0 rfl (by unfold vp_in; decide) rfl dX10_item_15 ?_
                refine lv_if_ge (tgt := 22) hx hb dX10_item_16 (by decide) (fun c29_ => absurd c29_ (by decide)) (fun c29_ => ?_)
                refine lv_bipush (v := (-11)) hx hb dX10_item_19 (by decide) ?_
                exact zret_i (v := (-11)) hx hb hr hlocks hS () (by show _ = _; rw [if_neg c2_, if_neg c6_]) (hW.sub [] (by decide) rfl) (Nat.le_of_ble_eq_true rfl) (Nat.le_of_ble_eq_true rfl) dX10_item_21
              · have b30_ : 5 ≤ Int32.toInt p1 ∧ Int32.toInt p1 ≤ 5 := (by have u0 := b26_; have u1 := (not_congr (zi_eq _ _)).mp c27_; have u2 : (4 : Int32).toInt = 4 := (by decide); omega)
                refine ztop (w := .int 5) (congrArg Value.int ((zi_eq _ _).mpr (by have u0 := b30_; have u1 : (5 : Int32).toInt = 5 := (by decide); omega))) ?_
                refine ziald (v := (-1)) hx hb hK hW 0 rfl (by unfold vp_in; decide) rfl dX10_item_15 ?_
                refine lv_if_ge (tgt := 22) hx hb dX10_item_16 (by decide) (fun c31_ => absurd c31_ (by decide)) (fun c31_ => ?_)
                refine lv_bipush (v := (-11)) hx hb dX10_item_19 (by decide) ?_
                exact zret_i (v := (-11)) hx hb hr hlocks hS () (by show _ = _; rw [if_neg c2_, if_neg c6_]) (hW.sub [] (by decide) rfl) (Nat.le_of_ble_eq_true rfl) (Nat.le_of_ble_eq_true rfl) dX10_item_21
set_option maxHeartbeats 8000000 in
set_option maxRecDepth 100000 in
theorem zc_X8_hasPlace_0 (l : Launch) (D : va_G) (y : Nat → ClassId) (a0 : Nat) (p1 : Int32) (w2 : Value) (w3 : Value) : zM l D y yX8_hasPlace (Cond.code yX8_hasPlace cX8_hasPlace 2 (some .boolean) :: zT) { frames := 0, cells := 0, slots := 0, locals := 0 } [.ref a0, .int p1] [(a0, .inr (7, [w2, .int 0, w3]))] (zQi (S := Unit) D (fun r_ _ => r_ = 0) (fun _ => [(a0, .inr (7, [w2, .int 0, w3]))])) := by
  refine zent (cc := cX8_hasPlace) (maxL := 2) (ret := (some .boolean)) (by decide) (Nat.le_of_ble_eq_true rfl) ?_
  intro p e s m below meth c A H locs ls hx hb hml hr ht hown hlocks hin hA hK hE hS hW hl
  have hown : s.vm.findClass RX8 = some m.cls := hown
  have hW : zPD D A [(a0, .inr (7, [w2, .int 0, w3]))] H := hW
  have hl : lv_has ls 2 [(0, .ref a0), (1, .int p1)] := hl
  refine lv_iload_n hx hb dX8_hasPlace_0 rfl (lv_at hl 1 rfl) ?_
  refine lv_if_lt (tgt := 16) hx hb dX8_hasPlace_1 (by decide) (fun c1_ => ?_) (fun c1_ => ?_)
  · have b2_ : (-2147483648) ≤ Int32.toInt p1 ∧ Int32.toInt p1 ≤ (-1) := (by have u0 := zbnd p1; have u1 := (zi_lt _ _).mp c1_; have u2 : (0 : Int32).toInt = 0 := (by decide); omega)
    refine lv_iconst (v := 0) hx hb dX8_hasPlace_16 (by decide) ?_
    exact zret_z (v := 0) hx hb hr hlocks hS () rfl rfl hW (Nat.le_of_ble_eq_true rfl) (Nat.le_of_ble_eq_true rfl) dX8_hasPlace_17
  · have b3_ : 0 ≤ Int32.toInt p1 ∧ Int32.toInt p1 ≤ 2147483647 := (by have u0 := zbnd p1; have u1 := (not_congr (zi_lt _ _)).mp c1_; have u2 : (0 : Int32).toInt = 0 := (by decide); omega)
    refine lv_iload_n hx hb dX8_hasPlace_4 rfl (lv_at hl 1 rfl) ?_
    refine lv_aload_n hx hb dX8_hasPlace_5 rfl (lv_at hl 0 rfl) ?_
    refine zget hx hb ht inlX8 hown hK hW 0 rfl rfl 1 (by decide) zm_133 rfl dX8_hasPlace_6 ?_
    refine lv_icmp_ge (tgt := 16) hx hb dX8_hasPlace_9 (by decide) (fun c4_ => ?_) (fun c4_ => absurd (by have z0 := b3_; have e0 : (0 : Int32).toInt = 0 := (by decide); rw [zi_le]; omega) c4_)
    refine lv_iconst (v := 0) hx hb dX8_hasPlace_16 (by decide) ?_
    exact zret_z (v := 0) hx hb hr hlocks hS () rfl rfl hW (Nat.le_of_ble_eq_true rfl) (Nat.le_of_ble_eq_true rfl) dX8_hasPlace_17
set_option maxHeartbeats 8000000 in
set_option maxRecDepth 100000 in
theorem zc_X9_read_0 (l : Launch) (D : va_G) (y : Nat → ClassId) (a0 : Nat) (p1 : Int32) (p2 : Int32) (w3 : Value) (w4 : Value) (w5 : Value) (w6 : Value) (w7 : Value) (w8 : Value) (w9 : Value) (w10 : Value) (a11 : Nat) (a12 : Nat) (a13 : Nat) (a14 : Nat) (a15 : Nat) (a16 : Nat) (a17 : Nat) (w18 : Value) (w19 : Value) (w20 : Value) (w21 : Value) (w22 : Value) (w23 : Value) (w24 : Value) (w25 : Value) (w26 : Value) (w27 : Value) (w28 : Value) (w29 : Value) : zM l D y yX9_read (Cond.code yX9_read cX9_read 3 (some .long) :: zT) { frames := 2, cells := 0, slots := 0, locals := 42 } [.ref a0, .int p1, .int p2] [(a0, .inr (8, [w3, w4, w5, w6, w7, w8, w9, w10, .ref a11])), (a11, .inl (y 5, 6, .inr (.inr (.inr (.inr (va_up (va_up (va_up (va_up (va_up (va_up (fun _ => none) 0 (some a12)) 1 (some a13)) 2 (some a14)) 3 (some a15)) 4 (some a16)) 5 (some a17))))))), (a12, .inr (7, [w18, .int 0, w19])), (a13, .inr (7, [w20, .int 0, w21])), (a14, .inr (7, [w22, .int 0, w23])), (a15, .inr (7, [w24, .int 0, w25])), (a16, .inr (7, [w26, .int 0, w27])), (a17, .inr (7, [w28, .int 0, w29]))] (zQl (S := Unit) D (fun r_ _ => r_ = (-9223372036854775808)) (fun _ => [])) := by
  refine zent (cc := cX9_read) (maxL := 3) (ret := (some .long)) (by decide) (Nat.le_of_ble_eq_true rfl) ?_
  intro p e s m below meth c A H locs ls hx hb hml hr ht hown hlocks hin hA hK hE hS hW hl
  have hown : s.vm.findClass RX9 = some m.cls := hown
  have hW : zPD D A [(a0, .inr (8, [w3, w4, w5, w6, w7, w8, w9, w10, .ref a11])), (a11, .inl (y 5, 6, .inr (.inr (.inr (.inr (va_up (va_up (va_up (va_up (va_up (va_up (fun _ => none) 0 (some a12)) 1 (some a13)) 2 (some a14)) 3 (some a15)) 4 (some a16)) 5 (some a17))))))), (a12, .inr (7, [w18, .int 0, w19])), (a13, .inr (7, [w20, .int 0, w21])), (a14, .inr (7, [w22, .int 0, w23])), (a15, .inr (7, [w24, .int 0, w25])), (a16, .inr (7, [w26, .int 0, w27])), (a17, .inr (7, [w28, .int 0, w29]))] H := hW
  have hl : lv_has ls 3 [(0, .ref a0), (1, .int p1), (2, .int p2)] := hl
  refine lv_iload_n hx hb dX9_read_0 rfl (lv_at hl 1 rfl) ?_
  refine zgo0_i (zrunS (As := [.int p1]) (rest := []) ⟨hx, hb, hml, hown, ht⟩ (zc_X9_isTape_0 l D y p1) (va_cwS 1 ht (zgS zm_1086 zm_1087 zm_2 zm_1088) rfl rfl rfl (by decide +kernel) ⟨(Nat.le_of_ble_eq_true rfl), (Nat.le_of_ble_eq_true rfl)⟩) hK hE hS hA hW [] (by decide) rfl rfl hl.1 rfl (Nat.le_of_ble_eq_true rfl) dX9_read_1 (Nat.le_of_ble_eq_true rfl) (Nat.le_of_ble_eq_true rfl)) hS hA hW (fun r1_ u H locs hw hW hS => ?_)
  have hw : r1_ = (if p1 < 0 then 0 else (if 5 < p1 then 0 else 1)) := hw
  by_cases c2_ : p1 < 0
  · have b3_ : (-2147483648) ≤ Int32.toInt p1 ∧ Int32.toInt p1 ≤ (-1) := (by have u0 := zbnd p1; have u1 := (zi_lt _ _).mp c2_; have u2 : (0 : Int32).toInt = 0 := (by decide); omega)
    rw [if_pos c2_] at hw
    subst hw
    refine lv_if_eq (tgt := 20) hx hb dX9_read_4 (by decide) (fun c4_ => ?_) (fun c4_ => absurd (by decide) c4_)
    refine lv_ldc2 (v := (-9223372036854775808)) hx hb hown (ht _ zm_1032) dX9_read_20 ?_
    exact zret_l (v := (-9223372036854775808)) hx hb hr hlocks hS () rfl (hW.sub [] (by decide) rfl) (Nat.le_of_ble_eq_true rfl) (Nat.le_of_ble_eq_true rfl) dX9_read_23
  · have b5_ : 0 ≤ Int32.toInt p1 ∧ Int32.toInt p1 ≤ 2147483647 := (by have u0 := zbnd p1; have u1 := (not_congr (zi_lt _ _)).mp c2_; have u2 : (0 : Int32).toInt = 0 := (by decide); omega)
    rw [if_neg c2_] at hw
    by_cases c6_ : 5 < p1
    · have b7_ : 6 ≤ Int32.toInt p1 ∧ Int32.toInt p1 ≤ 2147483647 := (by have u0 := b5_; have u1 := (zi_lt _ _).mp c6_; have u2 : (5 : Int32).toInt = 5 := (by decide); omega)
      rw [if_pos c6_] at hw
      subst hw
      refine lv_if_eq (tgt := 20) hx hb dX9_read_4 (by decide) (fun c8_ => ?_) (fun c8_ => absurd (by decide) c8_)
      refine lv_ldc2 (v := (-9223372036854775808)) hx hb hown (ht _ zm_1032) dX9_read_20 ?_
      exact zret_l (v := (-9223372036854775808)) hx hb hr hlocks hS () rfl (hW.sub [] (by decide) rfl) (Nat.le_of_ble_eq_true rfl) (Nat.le_of_ble_eq_true rfl) dX9_read_23
    · have b9_ : 0 ≤ Int32.toInt p1 ∧ Int32.toInt p1 ≤ 5 := (by have u0 := b5_; have u1 := (not_congr (zi_lt _ _)).mp c6_; have u2 : (5 : Int32).toInt = 5 := (by decide); omega)
      rw [if_neg c6_] at hw
      subst hw
      refine lv_if_eq (tgt := 20) hx hb dX9_read_4 (by decide) (fun c10_ => absurd c10_ (by decide)) (fun c10_ => ?_)
      refine lv_aload_n hx hb dX9_read_7 rfl (lv_at hl 0 rfl) ?_
      refine zget hx hb ht inlX9 hown hK hW 0 rfl rfl 8 (by decide) zm_35 rfl dX9_read_8 ?_
      refine lv_iload_n hx hb dX9_read_11 rfl (lv_at hl 1 rfl) ?_
      by_cases c11_ : p1 = 0
      · have b12_ : 0 ≤ Int32.toInt p1 ∧ Int32.toInt p1 ≤ 0 := (by have u0 := b9_; have u1 := (zi_eq _ _).mp c11_; have u2 : (0 : Int32).toInt = 0 := (by decide); omega)
        refine ztop (w := .int 0) (congrArg Value.int c11_) ?_
        refine zaald (v := .ref a12) hx hb hK hW 1 5 rfl rfl (by unfold vp_in; decide) rfl dX9_read_12 ?_
        refine lv_iload_n hx hb dX9_read_13 rfl (lv_at hl 2 rfl) ?_
        refine zgo_i (wr := [(a0, .inr (8, [w3, w4, w5, w6, w7, w8, w9, w10, .ref a11])), (a11, .inl (y 5, 6, .inr (.inr (.inr (.inr (va_up (va_up (va_up (va_up (va_up (va_up (fun _ => none) 0 (some a12)) 1 (some a13)) 2 (some a14)) 3 (some a15)) 4 (some a16)) 5 (some a17))))))), (a13, .inr (7, [w20, .int 0, w21])), (a14, .inr (7, [w22, .int 0, w23])), (a15, .inr (7, [w24, .int 0, w25])), (a16, .inr (7, [w26, .int 0, w27])), (a17, .inr (7, [w28, .int 0, w29]))]) (zrunV (As := [.int p2]) (rest := []) ⟨hx, hb, hml, hown, ht⟩ (zc_X8_hasPlace_0 l D y a12 p2 w18 w19) (cwV 1 ht (zgV zm_1241 zm_1242 zm_1243 zm_39 zm_1244) rfl rfl rfl (by decide +kernel) ⟨(Nat.le_of_ble_eq_true rfl), (Nat.le_of_ble_eq_true rfl)⟩) hK hE hS hA hW [2] (by decide) rfl 0 rfl rfl rfl rfl hl.1 rfl (Nat.le_of_ble_eq_true rfl) dX9_read_14 (Nat.le_of_ble_eq_true rfl) (Nat.le_of_ble_eq_true rfl)) hS hA hW [2] [0, 1, 3, 4, 5, 6, 7] rfl rfl (by decide) (by decide) (fun r13_ u H locs hw hW hS => ?_)
        have hW : zPD D A [(a0, .inr (8, [w3, w4, w5, w6, w7, w8, w9, w10, .ref a11])), (a11, .inl (y 5, 6, .inr (.inr (.inr (.inr (va_up (va_up (va_up (va_up (va_up (va_up (fun _ => none) 0 (some a12)) 1 (some a13)) 2 (some a14)) 3 (some a15)) 4 (some a16)) 5 (some a17))))))), (a13, .inr (7, [w20, .int 0, w21])), (a14, .inr (7, [w22, .int 0, w23])), (a15, .inr (7, [w24, .int 0, w25])), (a16, .inr (7, [w26, .int 0, w27])), (a17, .inr (7, [w28, .int 0, w29])), (a12, .inr (7, [w18, .int 0, w19]))] H := hW
        have hw : r13_ = 0 := hw
        subst hw
        refine lv_if_ne (tgt := 24) hx hb dX9_read_17 (by decide) (fun c14_ => absurd (by decide) c14_) (fun c14_ => ?_)
        refine lv_ldc2 (v := (-9223372036854775808)) hx hb hown (ht _ zm_1032) dX9_read_20 ?_
        exact zret_l (v := (-9223372036854775808)) hx hb hr hlocks hS () rfl (hW.sub [] (by decide) rfl) (Nat.le_of_ble_eq_true rfl) (Nat.le_of_ble_eq_true rfl) dX9_read_23
      · have b15_ : 1 ≤ Int32.toInt p1 ∧ Int32.toInt p1 ≤ 5 := (by have u0 := b9_; have u1 := (not_congr (zi_eq _ _)).mp c11_; have u2 : (0 : Int32).toInt = 0 := (by decide); omega)
        by_cases c16_ : p1 = 1
        · have b17_ : 1 ≤ Int32.toInt p1 ∧ Int32.toInt p1 ≤ 1 := (by have u0 := b15_; have u1 := (zi_eq _ _).mp c16_; have u2 : (1 : Int32).toInt = 1 := (by decide); omega)
          refine ztop (w := .int 1) (congrArg Value.int c16_) ?_
          refine zaald (v := .ref a13) hx hb hK hW 1 5 rfl rfl (by unfold vp_in; decide) rfl dX9_read_12 ?_
          refine lv_iload_n hx hb dX9_read_13 rfl (lv_at hl 2 rfl) ?_
          refine zgo_i (wr := [(a0, .inr (8, [w3, w4, w5, w6, w7, w8, w9, w10, .ref a11])), (a11, .inl (y 5, 6, .inr (.inr (.inr (.inr (va_up (va_up (va_up (va_up (va_up (va_up (fun _ => none) 0 (some a12)) 1 (some a13)) 2 (some a14)) 3 (some a15)) 4 (some a16)) 5 (some a17))))))), (a12, .inr (7, [w18, .int 0, w19])), (a14, .inr (7, [w22, .int 0, w23])), (a15, .inr (7, [w24, .int 0, w25])), (a16, .inr (7, [w26, .int 0, w27])), (a17, .inr (7, [w28, .int 0, w29]))]) (zrunV (As := [.int p2]) (rest := []) ⟨hx, hb, hml, hown, ht⟩ (zc_X8_hasPlace_0 l D y a13 p2 w20 w21) (cwV 1 ht (zgV zm_1241 zm_1242 zm_1243 zm_39 zm_1244) rfl rfl rfl (by decide +kernel) ⟨(Nat.le_of_ble_eq_true rfl), (Nat.le_of_ble_eq_true rfl)⟩) hK hE hS hA hW [3] (by decide) rfl 0 rfl rfl rfl rfl hl.1 rfl (Nat.le_of_ble_eq_true rfl) dX9_read_14 (Nat.le_of_ble_eq_true rfl) (Nat.le_of_ble_eq_true rfl)) hS hA hW [3] [0, 1, 2, 4, 5, 6, 7] rfl rfl (by decide) (by decide) (fun r18_ u H locs hw hW hS => ?_)
          have hW : zPD D A [(a0, .inr (8, [w3, w4, w5, w6, w7, w8, w9, w10, .ref a11])), (a11, .inl (y 5, 6, .inr (.inr (.inr (.inr (va_up (va_up (va_up (va_up (va_up (va_up (fun _ => none) 0 (some a12)) 1 (some a13)) 2 (some a14)) 3 (some a15)) 4 (some a16)) 5 (some a17))))))), (a12, .inr (7, [w18, .int 0, w19])), (a14, .inr (7, [w22, .int 0, w23])), (a15, .inr (7, [w24, .int 0, w25])), (a16, .inr (7, [w26, .int 0, w27])), (a17, .inr (7, [w28, .int 0, w29])), (a13, .inr (7, [w20, .int 0, w21]))] H := hW
          have hw : r18_ = 0 := hw
          subst hw
          refine lv_if_ne (tgt := 24) hx hb dX9_read_17 (by decide) (fun c19_ => absurd (by decide) c19_) (fun c19_ => ?_)
          refine lv_ldc2 (v := (-9223372036854775808)) hx hb hown (ht _ zm_1032) dX9_read_20 ?_
          exact zret_l (v := (-9223372036854775808)) hx hb hr hlocks hS () rfl (hW.sub [] (by decide) rfl) (Nat.le_of_ble_eq_true rfl) (Nat.le_of_ble_eq_true rfl) dX9_read_23
        · have b20_ : 2 ≤ Int32.toInt p1 ∧ Int32.toInt p1 ≤ 5 := (by have u0 := b15_; have u1 := (not_congr (zi_eq _ _)).mp c16_; have u2 : (1 : Int32).toInt = 1 := (by decide); omega)
          by_cases c21_ : p1 = 2
          · have b22_ : 2 ≤ Int32.toInt p1 ∧ Int32.toInt p1 ≤ 2 := (by have u0 := b20_; have u1 := (zi_eq _ _).mp c21_; have u2 : (2 : Int32).toInt = 2 := (by decide); omega)
            refine ztop (w := .int 2) (congrArg Value.int c21_) ?_
            refine zaald (v := .ref a14) hx hb hK hW 1 5 rfl rfl (by unfold vp_in; decide) rfl dX9_read_12 ?_
            refine lv_iload_n hx hb dX9_read_13 rfl (lv_at hl 2 rfl) ?_
            refine zgo_i (wr := [(a0, .inr (8, [w3, w4, w5, w6, w7, w8, w9, w10, .ref a11])), (a11, .inl (y 5, 6, .inr (.inr (.inr (.inr (va_up (va_up (va_up (va_up (va_up (va_up (fun _ => none) 0 (some a12)) 1 (some a13)) 2 (some a14)) 3 (some a15)) 4 (some a16)) 5 (some a17))))))), (a12, .inr (7, [w18, .int 0, w19])), (a13, .inr (7, [w20, .int 0, w21])), (a15, .inr (7, [w24, .int 0, w25])), (a16, .inr (7, [w26, .int 0, w27])), (a17, .inr (7, [w28, .int 0, w29]))]) (zrunV (As := [.int p2]) (rest := []) ⟨hx, hb, hml, hown, ht⟩ (zc_X8_hasPlace_0 l D y a14 p2 w22 w23) (cwV 1 ht (zgV zm_1241 zm_1242 zm_1243 zm_39 zm_1244) rfl rfl rfl (by decide +kernel) ⟨(Nat.le_of_ble_eq_true rfl), (Nat.le_of_ble_eq_true rfl)⟩) hK hE hS hA hW [4] (by decide) rfl 0 rfl rfl rfl rfl hl.1 rfl (Nat.le_of_ble_eq_true rfl) dX9_read_14 (Nat.le_of_ble_eq_true rfl) (Nat.le_of_ble_eq_true rfl)) hS hA hW [4] [0, 1, 2, 3, 5, 6, 7] rfl rfl (by decide) (by decide) (fun r23_ u H locs hw hW hS => ?_)
            have hW : zPD D A [(a0, .inr (8, [w3, w4, w5, w6, w7, w8, w9, w10, .ref a11])), (a11, .inl (y 5, 6, .inr (.inr (.inr (.inr (va_up (va_up (va_up (va_up (va_up (va_up (fun _ => none) 0 (some a12)) 1 (some a13)) 2 (some a14)) 3 (some a15)) 4 (some a16)) 5 (some a17))))))), (a12, .inr (7, [w18, .int 0, w19])), (a13, .inr (7, [w20, .int 0, w21])), (a15, .inr (7, [w24, .int 0, w25])), (a16, .inr (7, [w26, .int 0, w27])), (a17, .inr (7, [w28, .int 0, w29])), (a14, .inr (7, [w22, .int 0, w23]))] H := hW
            have hw : r23_ = 0 := hw
            subst hw
            refine lv_if_ne (tgt := 24) hx hb dX9_read_17 (by decide) (fun c24_ => absurd (by decide) c24_) (fun c24_ => ?_)
            refine lv_ldc2 (v := (-9223372036854775808)) hx hb hown (ht _ zm_1032) dX9_read_20 ?_
            exact zret_l (v := (-9223372036854775808)) hx hb hr hlocks hS () rfl (hW.sub [] (by decide) rfl) (Nat.le_of_ble_eq_true rfl) (Nat.le_of_ble_eq_true rfl) dX9_read_23
          · have b25_ : 3 ≤ Int32.toInt p1 ∧ Int32.toInt p1 ≤ 5 := (by have u0 := b20_; have u1 := (not_congr (zi_eq _ _)).mp c21_; have u2 : (2 : Int32).toInt = 2 := (by decide); omega)
            by_cases c26_ : p1 = 3
            · have b27_ : 3 ≤ Int32.toInt p1 ∧ Int32.toInt p1 ≤ 3 := (by have u0 := b25_; have u1 := (zi_eq _ _).mp c26_; have u2 : (3 : Int32).toInt = 3 := (by decide); omega)
              refine ztop (w := .int 3) (congrArg Value.int c26_) ?_
              refine zaald (v := .ref a15) hx hb hK hW 1 5 rfl rfl (by unfold vp_in; decide) rfl dX9_read_12 ?_
              refine lv_iload_n hx hb dX9_read_13 rfl (lv_at hl 2 rfl) ?_
              refine zgo_i (wr := [(a0, .inr (8, [w3, w4, w5, w6, w7, w8, w9, w10, .ref a11])), (a11, .inl (y 5, 6, .inr (.inr (.inr (.inr (va_up (va_up (va_up (va_up (va_up (va_up (fun _ => none) 0 (some a12)) 1 (some a13)) 2 (some a14)) 3 (some a15)) 4 (some a16)) 5 (some a17))))))), (a12, .inr (7, [w18, .int 0, w19])), (a13, .inr (7, [w20, .int 0, w21])), (a14, .inr (7, [w22, .int 0, w23])), (a16, .inr (7, [w26, .int 0, w27])), (a17, .inr (7, [w28, .int 0, w29]))]) (zrunV (As := [.int p2]) (rest := []) ⟨hx, hb, hml, hown, ht⟩ (zc_X8_hasPlace_0 l D y a15 p2 w24 w25) (cwV 1 ht (zgV zm_1241 zm_1242 zm_1243 zm_39 zm_1244) rfl rfl rfl (by decide +kernel) ⟨(Nat.le_of_ble_eq_true rfl), (Nat.le_of_ble_eq_true rfl)⟩) hK hE hS hA hW [5] (by decide) rfl 0 rfl rfl rfl rfl hl.1 rfl (Nat.le_of_ble_eq_true rfl) dX9_read_14 (Nat.le_of_ble_eq_true rfl) (Nat.le_of_ble_eq_true rfl)) hS hA hW [5] [0, 1, 2, 3, 4, 6, 7] rfl rfl (by decide) (by decide) (fun r28_ u H locs hw hW hS => ?_)
              have hW : zPD D A [(a0, .inr (8, [w3, w4, w5, w6, w7, w8, w9, w10, .ref a11])), (a11, .inl (y 5, 6, .inr (.inr (.inr (.inr (va_up (va_up (va_up (va_up (va_up (va_up (fun _ => none) 0 (some a12)) 1 (some a13)) 2 (some a14)) 3 (some a15)) 4 (some a16)) 5 (some a17))))))), (a12, .inr (7, [w18, .int 0, w19])), (a13, .inr (7, [w20, .int 0, w21])), (a14, .inr (7, [w22, .int 0, w23])), (a16, .inr (7, [w26, .int 0, w27])), (a17, .inr (7, [w28, .int 0, w29])), (a15, .inr (7, [w24, .int 0, w25]))] H := hW
              have hw : r28_ = 0 := hw
              subst hw
              refine lv_if_ne (tgt := 24) hx hb dX9_read_17 (by decide) (fun c29_ => absurd (by decide) c29_) (fun c29_ => ?_)
              refine lv_ldc2 (v := (-9223372036854775808)) hx hb hown (ht _ zm_1032) dX9_read_20 ?_
              exact zret_l (v := (-9223372036854775808)) hx hb hr hlocks hS () rfl (hW.sub [] (by decide) rfl) (Nat.le_of_ble_eq_true rfl) (Nat.le_of_ble_eq_true rfl) dX9_read_23
            · have b30_ : 4 ≤ Int32.toInt p1 ∧ Int32.toInt p1 ≤ 5 := (by have u0 := b25_; have u1 := (not_congr (zi_eq _ _)).mp c26_; have u2 : (3 : Int32).toInt = 3 := (by decide); omega)
              by_cases c31_ : p1 = 4
              · have b32_ : 4 ≤ Int32.toInt p1 ∧ Int32.toInt p1 ≤ 4 := (by have u0 := b30_; have u1 := (zi_eq _ _).mp c31_; have u2 : (4 : Int32).toInt = 4 := (by decide); omega)
                refine ztop (w := .int 4) (congrArg Value.int c31_) ?_
                refine zaald (v := .ref a16) hx hb hK hW 1 5 rfl rfl (by unfold vp_in; decide) rfl dX9_read_12 ?_
                refine lv_iload_n hx hb dX9_read_13 rfl (lv_at hl 2 rfl) ?_
                refine zgo_i (wr := [(a0, .inr (8, [w3, w4, w5, w6, w7, w8, w9, w10, .ref a11])), (a11, .inl (y 5, 6, .inr (.inr (.inr (.inr (va_up (va_up (va_up (va_up (va_up (va_up (fun _ => none) 0 (some a12)) 1 (some a13)) 2 (some a14)) 3 (some a15)) 4 (some a16)) 5 (some a17))))))), (a12, .inr (7, [w18, .int 0, w19])), (a13, .inr (7, [w20, .int 0, w21])), (a14, .inr (7, [w22, .int 0, w23])), (a15, .inr (7, [w24, .int 0, w25])), (a17, .inr (7, [w28, .int 0, w29]))]) (zrunV (As := [.int p2]) (rest := []) ⟨hx, hb, hml, hown, ht⟩ (zc_X8_hasPlace_0 l D y a16 p2 w26 w27) (cwV 1 ht (zgV zm_1241 zm_1242 zm_1243 zm_39 zm_1244) rfl rfl rfl (by decide +kernel) ⟨(Nat.le_of_ble_eq_true rfl), (Nat.le_of_ble_eq_true rfl)⟩) hK hE hS hA hW [6] (by decide) rfl 0 rfl rfl rfl rfl hl.1 rfl (Nat.le_of_ble_eq_true rfl) dX9_read_14 (Nat.le_of_ble_eq_true rfl) (Nat.le_of_ble_eq_true rfl)) hS hA hW [6] [0, 1, 2, 3, 4, 5, 7] rfl rfl (by decide) (by decide) (fun r33_ u H locs hw hW hS => ?_)
                have hW : zPD D A [(a0, .inr (8, [w3, w4, w5, w6, w7, w8, w9, w10, .ref a11])), (a11, .inl (y 5, 6, .inr (.inr (.inr (.inr (va_up (va_up (va_up (va_up (va_up (va_up (fun _ => none) 0 (some a12)) 1 (some a13)) 2 (some a14)) 3 (some a15)) 4 (some a16)) 5 (some a17))))))), (a12, .inr (7, [w18, .int 0, w19])), (a13, .inr (7, [w20, .int 0, w21])), (a14, .inr (7, [w22, .int 0, w23])), (a15, .inr (7, [w24, .int 0, w25])), (a17, .inr (7, [w28, .int 0, w29])), (a16, .inr (7, [w26, .int 0, w27]))] H := hW
                have hw : r33_ = 0 := hw
                subst hw
                refine lv_if_ne (tgt := 24) hx hb dX9_read_17 (by decide) (fun c34_ => absurd (by decide) c34_) (fun c34_ => ?_)
                refine lv_ldc2 (v := (-9223372036854775808)) hx hb hown (ht _ zm_1032) dX9_read_20 ?_
                exact zret_l (v := (-9223372036854775808)) hx hb hr hlocks hS () rfl (hW.sub [] (by decide) rfl) (Nat.le_of_ble_eq_true rfl) (Nat.le_of_ble_eq_true rfl) dX9_read_23
              · have b35_ : 5 ≤ Int32.toInt p1 ∧ Int32.toInt p1 ≤ 5 := (by have u0 := b30_; have u1 := (not_congr (zi_eq _ _)).mp c31_; have u2 : (4 : Int32).toInt = 4 := (by decide); omega)
                refine ztop (w := .int 5) (congrArg Value.int ((zi_eq _ _).mpr (by have u0 := b35_; have u1 : (5 : Int32).toInt = 5 := (by decide); omega))) ?_
                refine zaald (v := .ref a17) hx hb hK hW 1 5 rfl rfl (by unfold vp_in; decide) rfl dX9_read_12 ?_
                refine lv_iload_n hx hb dX9_read_13 rfl (lv_at hl 2 rfl) ?_
                refine zgo_i (wr := [(a0, .inr (8, [w3, w4, w5, w6, w7, w8, w9, w10, .ref a11])), (a11, .inl (y 5, 6, .inr (.inr (.inr (.inr (va_up (va_up (va_up (va_up (va_up (va_up (fun _ => none) 0 (some a12)) 1 (some a13)) 2 (some a14)) 3 (some a15)) 4 (some a16)) 5 (some a17))))))), (a12, .inr (7, [w18, .int 0, w19])), (a13, .inr (7, [w20, .int 0, w21])), (a14, .inr (7, [w22, .int 0, w23])), (a15, .inr (7, [w24, .int 0, w25])), (a16, .inr (7, [w26, .int 0, w27]))]) (zrunV (As := [.int p2]) (rest := []) ⟨hx, hb, hml, hown, ht⟩ (zc_X8_hasPlace_0 l D y a17 p2 w28 w29) (cwV 1 ht (zgV zm_1241 zm_1242 zm_1243 zm_39 zm_1244) rfl rfl rfl (by decide +kernel) ⟨(Nat.le_of_ble_eq_true rfl), (Nat.le_of_ble_eq_true rfl)⟩) hK hE hS hA hW [7] (by decide) rfl 0 rfl rfl rfl rfl hl.1 rfl (Nat.le_of_ble_eq_true rfl) dX9_read_14 (Nat.le_of_ble_eq_true rfl) (Nat.le_of_ble_eq_true rfl)) hS hA hW [7] [0, 1, 2, 3, 4, 5, 6] rfl rfl (by decide) (by decide) (fun r36_ u H locs hw hW hS => ?_)
                have hW : zPD D A [(a0, .inr (8, [w3, w4, w5, w6, w7, w8, w9, w10, .ref a11])), (a11, .inl (y 5, 6, .inr (.inr (.inr (.inr (va_up (va_up (va_up (va_up (va_up (va_up (fun _ => none) 0 (some a12)) 1 (some a13)) 2 (some a14)) 3 (some a15)) 4 (some a16)) 5 (some a17))))))), (a12, .inr (7, [w18, .int 0, w19])), (a13, .inr (7, [w20, .int 0, w21])), (a14, .inr (7, [w22, .int 0, w23])), (a15, .inr (7, [w24, .int 0, w25])), (a16, .inr (7, [w26, .int 0, w27])), (a17, .inr (7, [w28, .int 0, w29]))] H := hW
                have hw : r36_ = 0 := hw
                subst hw
                refine lv_if_ne (tgt := 24) hx hb dX9_read_17 (by decide) (fun c37_ => absurd (by decide) c37_) (fun c37_ => ?_)
                refine lv_ldc2 (v := (-9223372036854775808)) hx hb hown (ht _ zm_1032) dX9_read_20 ?_
                exact zret_l (v := (-9223372036854775808)) hx hb hr hlocks hS () rfl (hW.sub [] (by decide) rfl) (Nat.le_of_ble_eq_true rfl) (Nat.le_of_ble_eq_true rfl) dX9_read_23
set_option maxHeartbeats 8000000 in
set_option maxRecDepth 100000 in
theorem zc_X10_read_0 (l : Launch) (D : va_G) (y : Nat → ClassId) (a0 : Nat) (p1 : Int32) (p2 : Int32) (w3 : Value) (w4 : Value) (w5 : Value) (w6 : Value) (w7 : Value) (w8 : Value) (w9 : Value) (w10 : Value) (w11 : Value) (w12 : Value) (w13 : Value) (w14 : Value) (w15 : Value) (w16 : Value) (w17 : Value) (w18 : Value) (w19 : Value) (w20 : Value) (w21 : Value) (w22 : Value) (w23 : Value) (w24 : Value) (w25 : Value) (w26 : Value) (w27 : Value) (w28 : Value) (w29 : Value) (w30 : Value) (w31 : Value) (w32 : Value) (w33 : Value) (w34 : Value) (w35 : Value) (w36 : Value) (w37 : Value) (w38 : Value) (w39 : Value) (w40 : Value) (w41 : Value) (w42 : Value) (w43 : Value) (w44 : Value) (w45 : Value) (w46 : Value) (w47 : Value) (w48 : Value) (w49 : Value) (w50 : Value) (w51 : Value) (w52 : Value) (w53 : Value) (w54 : Value) (w55 : Value) (w56 : Value) (w57 : Value) (w58 : Value) (w59 : Value) (w60 : Value) (w61 : Value) (w62 : Value) (w63 : Value) (w64 : Value) (w65 : Value) (w66 : Value) (w67 : Value) (w68 : Value) (w69 : Value) (w70 : Value) (w71 : Value) (w72 : Value) (w73 : Value) (w74 : Value) (a75 : Nat) (w76 : Value) (w77 : Value) (w78 : Value) : zM l D y yX10_read (Cond.code yX10_read cX10_read 3 (some .long) :: zT) { frames := 2, cells := 0, slots := 0, locals := 44 } [.ref a0, .int p1, .int p2] [(a0, .inr (9, [w3, w4, w5, w6, w7, w8, w9, w10, w11, w12, w13, w14, w15, w16, w17, w18, w19, w20, w21, w22, w23, w24, w25, w26, w27, w28, w29, w30, w31, w32, w33, w34, w35, w36, w37, w38, w39, w40, w41, w42, w43, w44, w45, w46, w47, w48, w49, w50, w51, w52, w53, w54, w55, w56, w57, w58, w59, w60, w61, w62, w63, w64, w65, w66, w67, w68, w69, w70, w71, w72, w73, w74, .ref a75, w76, w77, w78])), (a75, .inl (y 0, 6, .inl (upd (upd (upd (upd (upd (upd (fun _ => 0) 0 (-1)) 1 (-1)) 2 (-1)) 3 (-1)) 4 (-1)) 5 (-1))))] (zQl (S := Unit) D (fun r_ _ => r_ = (-9223372036854775808)) (fun _ => [])) := by
  refine zent (cc := cX10_read) (maxL := 3) (ret := (some .long)) (by decide) (Nat.le_of_ble_eq_true rfl) ?_
  intro p e s m below meth c A H locs ls hx hb hml hr ht hown hlocks hin hA hK hE hS hW hl
  have hown : s.vm.findClass RX10 = some m.cls := hown
  have hW : zPD D A [(a0, .inr (9, [w3, w4, w5, w6, w7, w8, w9, w10, w11, w12, w13, w14, w15, w16, w17, w18, w19, w20, w21, w22, w23, w24, w25, w26, w27, w28, w29, w30, w31, w32, w33, w34, w35, w36, w37, w38, w39, w40, w41, w42, w43, w44, w45, w46, w47, w48, w49, w50, w51, w52, w53, w54, w55, w56, w57, w58, w59, w60, w61, w62, w63, w64, w65, w66, w67, w68, w69, w70, w71, w72, w73, w74, .ref a75, w76, w77, w78])), (a75, .inl (y 0, 6, .inl (upd (upd (upd (upd (upd (upd (fun _ => 0) 0 (-1)) 1 (-1)) 2 (-1)) 3 (-1)) 4 (-1)) 5 (-1))))] H := hW
  have hl : lv_has ls 3 [(0, .ref a0), (1, .int p1), (2, .int p2)] := hl
  refine lv_aload_n hx hb dX10_read_0 rfl (lv_at hl 0 rfl) ?_
  refine lv_iload_n hx hb dX10_read_1 rfl (lv_at hl 1 rfl) ?_
  refine zgo_i (wr := [(a75, .inl (y 0, 6, .inl (upd (upd (upd (upd (upd (upd (fun _ => 0) 0 (-1)) 1 (-1)) 2 (-1)) 3 (-1)) 4 (-1)) 5 (-1))))]) (zrunV (As := [.int p1]) (rest := []) ⟨hx, hb, hml, hown, ht⟩ (zc_X10_isTape_0 l D y a0 p1 w3 w4 w5 w6 w7 w8 w9 w10 w11 w12 w13 w14 w15 w16 w17 w18 w19 w20 w21 w22 w23 w24 w25 w26 w27 w28 w29 w30 w31 w32 w33 w34 w35 w36 w37 w38 w39 w40 w41 w42 w43 w44 w45 w46 w47 w48 w49 w50 w51 w52 w53 w54 w55 w56 w57 w58 w59 w60 w61 w62 w63 w64 w65 w66 w67 w68 w69 w70 w71 w72 w73 w74 (.ref a75) w76 w77 w78) (cwV 1 ht (zgV zm_1097 zm_1098 zm_1099 zm_5 zm_1100) rfl rfl rfl (by decide +kernel) ⟨(Nat.le_of_ble_eq_true rfl), (Nat.le_of_ble_eq_true rfl)⟩) hK hE hS hA hW [0] (by decide) rfl 0 rfl rfl rfl rfl hl.1 rfl (Nat.le_of_ble_eq_true rfl) dX10_read_2 (Nat.le_of_ble_eq_true rfl) (Nat.le_of_ble_eq_true rfl)) hS hA hW [0] [1] rfl rfl (by decide) (by decide) (fun r1_ u H locs hw hW hS => ?_)
  have hW : zPD D A [(a75, .inl (y 0, 6, .inl (upd (upd (upd (upd (upd (upd (fun _ => 0) 0 (-1)) 1 (-1)) 2 (-1)) 3 (-1)) 4 (-1)) 5 (-1)))), (a0, .inr (9, [w3, w4, w5, w6, w7, w8, w9, w10, w11, w12, w13, w14, w15, w16, w17, w18, w19, w20, w21, w22, w23, w24, w25, w26, w27, w28, w29, w30, w31, w32, w33, w34, w35, w36, w37, w38, w39, w40, w41, w42, w43, w44, w45, w46, w47, w48, w49, w50, w51, w52, w53, w54, w55, w56, w57, w58, w59, w60, w61, w62, w63, w64, w65, w66, w67, w68, w69, w70, w71, w72, w73, w74, .ref a75, w76, w77, w78]))] H := hW
  have hw : r1_ = (if p1 < 0 then 0 else (if 5 < p1 then 0 else 1)) := hw
  by_cases c2_ : p1 < 0
  · have b3_ : (-2147483648) ≤ Int32.toInt p1 ∧ Int32.toInt p1 ≤ (-1) := (by have u0 := zbnd p1; have u1 := (zi_lt _ _).mp c2_; have u2 : (0 : Int32).toInt = 0 := (by decide); omega)
    rw [if_pos c2_] at hw
    subst hw
    refine lv_if_eq (tgt := 34) hx hb dX10_read_5 (by decide) (fun c4_ => ?_) (fun c4_ => absurd (by decide) c4_)
    refine lv_ldc2 (v := (-9223372036854775808)) hx hb hown (ht _ zm_1044) dX10_read_34 ?_
    refine lv_goto (tgt := 51) hx hb dX10_read_37 (by decide) ?_
    exact zret_l (v := (-9223372036854775808)) hx hb hr hlocks hS () rfl (hW.sub [] (by decide) rfl) (Nat.le_of_ble_eq_true rfl) (Nat.le_of_ble_eq_true rfl) dX10_read_51
  · have b5_ : 0 ≤ Int32.toInt p1 ∧ Int32.toInt p1 ≤ 2147483647 := (by have u0 := zbnd p1; have u1 := (not_congr (zi_lt _ _)).mp c2_; have u2 : (0 : Int32).toInt = 0 := (by decide); omega)
    rw [if_neg c2_] at hw
    by_cases c6_ : 5 < p1
    · have b7_ : 6 ≤ Int32.toInt p1 ∧ Int32.toInt p1 ≤ 2147483647 := (by have u0 := b5_; have u1 := (zi_lt _ _).mp c6_; have u2 : (5 : Int32).toInt = 5 := (by decide); omega)
      rw [if_pos c6_] at hw
      subst hw
      refine lv_if_eq (tgt := 34) hx hb dX10_read_5 (by decide) (fun c8_ => ?_) (fun c8_ => absurd (by decide) c8_)
      refine lv_ldc2 (v := (-9223372036854775808)) hx hb hown (ht _ zm_1044) dX10_read_34 ?_
      refine lv_goto (tgt := 51) hx hb dX10_read_37 (by decide) ?_
      exact zret_l (v := (-9223372036854775808)) hx hb hr hlocks hS () rfl (hW.sub [] (by decide) rfl) (Nat.le_of_ble_eq_true rfl) (Nat.le_of_ble_eq_true rfl) dX10_read_51
    · have b9_ : 0 ≤ Int32.toInt p1 ∧ Int32.toInt p1 ≤ 5 := (by have u0 := b5_; have u1 := (not_congr (zi_lt _ _)).mp c6_; have u2 : (5 : Int32).toInt = 5 := (by decide); omega)
      rw [if_neg c6_] at hw
      subst hw
      refine lv_if_eq (tgt := 34) hx hb dX10_read_5 (by decide) (fun c10_ => absurd c10_ (by decide)) (fun c10_ => ?_)
      refine lv_aload_n hx hb dX10_read_8 rfl (lv_at hl 0 rfl) ?_
      refine zget hx hb ht inlX10 hown hK hW 1 rfl rfl 72 (by decide) zm_212 rfl dX10_read_9 ?_
      refine lv_iload_n hx hb dX10_read_12 rfl (lv_at hl 1 rfl) ?_
      by_cases c11_ : p1 = 0
      · have b12_ : 0 ≤ Int32.toInt p1 ∧ Int32.toInt p1 ≤ 0 := (by have u0 := b9_; have u1 := (zi_eq _ _).mp c11_; have u2 : (0 : Int32).toInt = 0 := (by decide); omega)
        refine ztop (w := .int 0) (congrArg Value.int c11_) ?_
        refine ziald (v := (-1)) hx hb hK hW 0 rfl (by unfold vp_in; decide) rfl dX10_read_13 ?_
        refine lv_if_lt (tgt := 34) hx hb dX10_read_14 (by decide) (fun c13_ => ?_) (fun c13_ => absurd (by decide) c13_)
        refine lv_ldc2 (v := (-9223372036854775808)) hx hb hown (ht _ zm_1044) dX10_read_34 ?_
        refine lv_goto (tgt := 51) hx hb dX10_read_37 (by decide) ?_
        exact zret_l (v := (-9223372036854775808)) hx hb hr hlocks hS () rfl (hW.sub [] (by decide) rfl) (Nat.le_of_ble_eq_true rfl) (Nat.le_of_ble_eq_true rfl) dX10_read_51
      · have b14_ : 1 ≤ Int32.toInt p1 ∧ Int32.toInt p1 ≤ 5 := (by have u0 := b9_; have u1 := (not_congr (zi_eq _ _)).mp c11_; have u2 : (0 : Int32).toInt = 0 := (by decide); omega)
        by_cases c15_ : p1 = 1
        · have b16_ : 1 ≤ Int32.toInt p1 ∧ Int32.toInt p1 ≤ 1 := (by have u0 := b14_; have u1 := (zi_eq _ _).mp c15_; have u2 : (1 : Int32).toInt = 1 := (by decide); omega)
          refine ztop (w := .int 1) (congrArg Value.int c15_) ?_
          refine ziald (v := (-1)) hx hb hK hW 0 rfl (by unfold vp_in; decide) rfl dX10_read_13 ?_
          refine lv_if_lt (tgt := 34) hx hb dX10_read_14 (by decide) (fun c17_ => ?_) (fun c17_ => absurd (by decide) c17_)
          refine lv_ldc2 (v := (-9223372036854775808)) hx hb hown (ht _ zm_1044) dX10_read_34 ?_
          refine lv_goto (tgt := 51) hx hb dX10_read_37 (by decide) ?_
          exact zret_l (v := (-9223372036854775808)) hx hb hr hlocks hS () rfl (hW.sub [] (by decide) rfl) (Nat.le_of_ble_eq_true rfl) (Nat.le_of_ble_eq_true rfl) dX10_read_51
        · have b18_ : 2 ≤ Int32.toInt p1 ∧ Int32.toInt p1 ≤ 5 := (by have u0 := b14_; have u1 := (not_congr (zi_eq _ _)).mp c15_; have u2 : (1 : Int32).toInt = 1 := (by decide); omega)
          by_cases c19_ : p1 = 2
          · have b20_ : 2 ≤ Int32.toInt p1 ∧ Int32.toInt p1 ≤ 2 := (by have u0 := b18_; have u1 := (zi_eq _ _).mp c19_; have u2 : (2 : Int32).toInt = 2 := (by decide); omega)
            refine ztop (w := .int 2) (congrArg Value.int c19_) ?_
            refine ziald (v := (-1)) hx hb hK hW 0 rfl (by unfold vp_in; decide) rfl dX10_read_13 ?_
            refine lv_if_lt (tgt := 34) hx hb dX10_read_14 (by decide) (fun c21_ => ?_) (fun c21_ => absurd (by decide) c21_)
            refine lv_ldc2 (v := (-9223372036854775808)) hx hb hown (ht _ zm_1044) dX10_read_34 ?_
            refine lv_goto (tgt := 51) hx hb dX10_read_37 (by decide) ?_
            exact zret_l (v := (-9223372036854775808)) hx hb hr hlocks hS () rfl (hW.sub [] (by decide) rfl) (Nat.le_of_ble_eq_true rfl) (Nat.le_of_ble_eq_true rfl) dX10_read_51
          · have b22_ : 3 ≤ Int32.toInt p1 ∧ Int32.toInt p1 ≤ 5 := (by have u0 := b18_; have u1 := (not_congr (zi_eq _ _)).mp c19_; have u2 : (2 : Int32).toInt = 2 := (by decide); omega)
            by_cases c23_ : p1 = 3
            · have b24_ : 3 ≤ Int32.toInt p1 ∧ Int32.toInt p1 ≤ 3 := (by have u0 := b22_; have u1 := (zi_eq _ _).mp c23_; have u2 : (3 : Int32).toInt = 3 := (by decide); omega)
              refine ztop (w := .int 3) (congrArg Value.int c23_) ?_
              refine ziald (v := (-1)) hx hb hK hW 0 rfl (by unfold vp_in; decide) rfl dX10_read_13 ?_
              refine lv_if_lt (tgt := 34) hx hb dX10_read_14 (by decide) (fun c25_ => ?_) (fun c25_ => absurd (by decide) c25_)
              refine lv_ldc2 (v := (-9223372036854775808)) hx hb hown (ht _ zm_1044) dX10_read_34 ?_
              refine lv_goto (tgt := 51) hx hb dX10_read_37 (by decide) ?_
              exact zret_l (v := (-9223372036854775808)) hx hb hr hlocks hS () rfl (hW.sub [] (by decide) rfl) (Nat.le_of_ble_eq_true rfl) (Nat.le_of_ble_eq_true rfl) dX10_read_51
            · have b26_ : 4 ≤ Int32.toInt p1 ∧ Int32.toInt p1 ≤ 5 := (by have u0 := b22_; have u1 := (not_congr (zi_eq _ _)).mp c23_; have u2 : (3 : Int32).toInt = 3 := (by decide); omega)
              by_cases c27_ : p1 = 4
              · have b28_ : 4 ≤ Int32.toInt p1 ∧ Int32.toInt p1 ≤ 4 := (by have u0 := b26_; have u1 := (zi_eq _ _).mp c27_; have u2 : (4 : Int32).toInt = 4 := (by decide); omega)
                refine ztop (w := .int 4) (congrArg Value.int c27_) ?_
                refine ziald (v := (-1)) hx hb hK hW 0 rfl (by unfold vp_in; decide) rfl dX10_read_13 ?_
                refine lv_if_lt (tgt := 34) hx hb dX10_read_14 (by decide) (fun c29_ => ?_) (fun c29_ => absurd (by decide) c29_)
                refine lv_ldc2 (v := (-9223372036854775808)) hx hb hown (ht _ zm_1044) dX10_read_34 ?_
                refine lv_goto (tgt := 51) hx hb dX10_read_37 (by decide) ?_
                exact zret_l (v := (-9223372036854775808)) hx hb hr hlocks hS () rfl (hW.sub [] (by decide) rfl) (Nat.le_of_ble_eq_true rfl) (Nat.le_of_ble_eq_true rfl) dX10_read_51
              · have b30_ : 5 ≤ Int32.toInt p1 ∧ Int32.toInt p1 ≤ 5 := (by have u0 := b26_; have u1 := (not_congr (zi_eq _ _)).mp c27_; have u2 : (4 : Int32).toInt = 4 := (by decide); omega)
                refine ztop (w := .int 5) (congrArg Value.int ((zi_eq _ _).mpr (by have u0 := b30_; have u1 : (5 : Int32).toInt = 5 := (by decide); omega))) ?_
                refine ziald (v := (-1)) hx hb hK hW 0 rfl (by unfold vp_in; decide) rfl dX10_read_13 ?_
                refine lv_if_lt (tgt := 34) hx hb dX10_read_14 (by decide) (fun c31_ => ?_) (fun c31_ => absurd (by decide) c31_)
                refine lv_ldc2 (v := (-9223372036854775808)) hx hb hown (ht _ zm_1044) dX10_read_34 ?_
                refine lv_goto (tgt := 51) hx hb dX10_read_37 (by decide) ?_
                exact zret_l (v := (-9223372036854775808)) hx hb hr hlocks hS () rfl (hW.sub [] (by decide) rfl) (Nat.le_of_ble_eq_true rfl) (Nat.le_of_ble_eq_true rfl) dX10_read_51
