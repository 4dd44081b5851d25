theorem dX10_read_0 : decode cX10_read 0 = .ok (.aload_n 0, 1) := by decide +kernel
theorem dX10_read_1 : decode cX10_read 1 = .ok (.iload_n 1, 1) := by decide +kernel
theorem dX10_read_12 : decode cX10_read 12 = .ok (.iload_n 1, 1) := by decide +kernel
theorem dX10_read_13 : decode cX10_read 13 = .ok (.iaload, 1) := by decide +kernel
theorem dX10_read_14 : decode cX10_read 14 = .ok (.ifCond .lt 20, 3) := by decide +kernel
theorem dX10_read_17 : decode cX10_read 17 = .ok (.aload_n 0, 1) := by decide +kernel
theorem dX10_read_18 : decode cX10_read 18 = .ok (.iload_n 2, 1) := by decide +kernel
theorem dX10_read_19 : decode cX10_read 19 = .ok (.iconst 0, 1) := by decide +kernel
theorem dX10_read_2 : decode cX10_read 2 = .ok (.invokevirtual 399, 3) := by decide +kernel
theorem dX10_read_20 : decode cX10_read 20 = .ok (.aload_n 0, 1) := by decide +kernel
theorem dX10_read_21 : decode cX10_read 21 = .ok (.getfield 232, 3) := by decide +kernel
theorem dX10_read_24 : decode cX10_read 24 = .ok (.iload_n 1, 1) := by decide +kernel
theorem dX10_read_25 : decode cX10_read 25 = .ok (.iaload, 1) := by decide +kernel
theorem dX10_read_26 : decode cX10_read 26 = .ok (.iconst 1, 1) := by decide +kernel
theorem dX10_read_27 : decode cX10_read 27 = .ok (.isub, 1) := by decide +kernel
theorem dX10_read_28 : decode cX10_read 28 = .ok (.invokevirtual 242, 3) := by decide +kernel
theorem dX10_read_31 : decode cX10_read 31 = .ok (.ifCond .ne 9, 3) := by decide +kernel
theorem dX10_read_34 : decode cX10_read 34 = .ok (.ldc2_w 393, 3) := by decide +kernel
theorem dX10_read_37 : decode cX10_read 37 = .ok (.goto 14, 3) := by decide +kernel
theorem dX10_read_40 : decode cX10_read 40 = .ok (.aload_n 0, 1) := by decide +kernel
theorem dX10_read_41 : decode cX10_read 41 = .ok (.getfield 235, 3) := by decide +kernel
theorem dX10_read_44 : decode cX10_read 44 = .ok (.bipush 60, 2) := by decide +kernel
theorem dX10_read_46 : decode cX10_read 46 = .ok (.iload_n 1, 1) := by decide +kernel
theorem dX10_read_47 : decode cX10_read 47 = .ok (.imul, 1) := by decide +kernel
theorem dX10_read_48 : decode cX10_read 48 = .ok (.iload_n 2, 1) := by decide +kernel
theorem dX10_read_49 : decode cX10_read 49 = .ok (.iadd, 1) := by decide +kernel
theorem dX10_read_5 : decode cX10_read 5 = .ok (.ifCond .eq 29, 3) := by decide +kernel
theorem dX10_read_50 : decode cX10_read 50 = .ok (.laload, 1) := by decide +kernel
theorem dX10_read_51 : decode cX10_read 51 = .ok (.lreturn, 1) := by decide +kernel
theorem dX10_read_8 : decode cX10_read 8 = .ok (.aload_n 0, 1) := by decide +kernel
theorem dX10_read_9 : decode cX10_read 9 = .ok (.getfield 229, 3) := by decide +kernel
theorem dX10_shift_0 : decode cX10_shift 0 = .ok (.aload_n 0, 1) := by decide +kernel
theorem dX10_shift_1 : decode cX10_shift 1 = .ok (.iload_n 1, 1) := by decide +kernel
theorem dX10_shift_10 : decode cX10_shift 10 = .ok (.invokevirtual 399, 3) := by decide +kernel
theorem dX10_shift_100 : decode cX10_shift 100 = .ok (.ireturn, 1) := by decide +kernel
theorem dX10_shift_101 : decode cX10_shift 101 = .ok (.iconst 0, 1) := by decide +kernel
theorem dX10_shift_102 : decode cX10_shift 102 = .ok (.istore 6, 2) := by decide +kernel
theorem dX10_shift_104 : decode cX10_shift 104 = .ok (.iload 6, 2) := by decide +kernel
theorem dX10_shift_106 : decode cX10_shift 106 = .ok (.iload 5, 2) := by decide +kernel
theorem dX10_shift_108 : decode cX10_shift 108 = .ok (.if_icmp .ge 30, 3) := by decide +kernel
theorem dX10_shift_111 : decode cX10_shift 111 = .ok (.aload_n 0, 1) := by decide +kernel
theorem dX10_shift_112 : decode cX10_shift 112 = .ok (.getfield 239, 3) := by decide +kernel
theorem dX10_shift_115 : decode cX10_shift 115 = .ok (.iload 6, 2) := by decide +kernel
theorem dX10_shift_117 : decode cX10_shift 117 = .ok (.aload_n 0, 1) := by decide +kernel
theorem dX10_shift_118 : decode cX10_shift 118 = .ok (.getfield 235, 3) := by decide +kernel
theorem dX10_shift_121 : decode cX10_shift 121 = .ok (.bipush 60, 2) := by decide +kernel
theorem dX10_shift_123 : decode cX10_shift 123 = .ok (.iload_n 1, 1) := by decide +kernel
theorem dX10_shift_124 : decode cX10_shift 124 = .ok (.imul, 1) := by decide +kernel
theorem dX10_shift_125 : decode cX10_shift 125 = .ok (.iload_n 2, 1) := by decide +kernel
theorem dX10_shift_126 : decode cX10_shift 126 = .ok (.iadd, 1) := by decide +kernel
theorem dX10_shift_127 : decode cX10_shift 127 = .ok (.iload 6, 2) := by decide +kernel
theorem dX10_shift_129 : decode cX10_shift 129 = .ok (.iadd, 1) := by decide +kernel
theorem dX10_shift_13 : decode cX10_shift 13 = .ok (.ifCond .ne 5, 3) := by decide +kernel
theorem dX10_shift_130 : decode cX10_shift 130 = .ok (.laload, 1) := by decide +kernel
theorem dX10_shift_131 : decode cX10_shift 131 = .ok (.lastore, 1) := by decide +kernel
theorem dX10_shift_132 : decode cX10_shift 132 = .ok (.iinc 6 1, 3) := by decide +kernel
theorem dX10_shift_135 : decode cX10_shift 135 = .ok (.goto (-31), 3) := by decide +kernel
theorem dX10_shift_138 : decode cX10_shift 138 = .ok (.iconst 0, 1) := by decide +kernel
theorem dX10_shift_139 : decode cX10_shift 139 = .ok (.istore 6, 2) := by decide +kernel
theorem dX10_shift_141 : decode cX10_shift 141 = .ok (.iload 6, 2) := by decide +kernel
theorem dX10_shift_143 : decode cX10_shift 143 = .ok (.iload 5, 2) := by decide +kernel
theorem dX10_shift_145 : decode cX10_shift 145 = .ok (.if_icmp .ge 31, 3) := by decide +kernel
theorem dX10_shift_148 : decode cX10_shift 148 = .ok (.aload_n 0, 1) := by decide +kernel
theorem dX10_shift_149 : decode cX10_shift 149 = .ok (.getfield 235, 3) := by decide +kernel
theorem dX10_shift_152 : decode cX10_shift 152 = .ok (.bipush 60, 2) := by decide +kernel
theorem dX10_shift_154 : decode cX10_shift 154 = .ok (.iload_n 3, 1) := by decide +kernel
theorem dX10_shift_155 : decode cX10_shift 155 = .ok (.imul, 1) := by decide +kernel
theorem dX10_shift_156 : decode cX10_shift 156 = .ok (.iload 4, 2) := by decide +kernel
theorem dX10_shift_158 : decode cX10_shift 158 = .ok (.iadd, 1) := by decide +kernel
theorem dX10_shift_159 : decode cX10_shift 159 = .ok (.iload 6, 2) := by decide +kernel
theorem dX10_shift_16 : decode cX10_shift 16 = .ok (.iconst (-1), 1) := by decide +kernel
theorem dX10_shift_161 : decode cX10_shift 161 = .ok (.iadd, 1) := by decide +kernel
theorem dX10_shift_162 : decode cX10_shift 162 = .ok (.aload_n 0, 1) := by decide +kernel
theorem dX10_shift_163 : decode cX10_shift 163 = .ok (.getfield 239, 3) := by decide +kernel
theorem dX10_shift_166 : decode cX10_shift 166 = .ok (.iload 6, 2) := by decide +kernel
theorem dX10_shift_168 : decode cX10_shift 168 = .ok (.laload, 1) := by decide +kernel
theorem dX10_shift_169 : decode cX10_shift 169 = .ok (.lastore, 1) := by decide +kernel
theorem dX10_shift_17 : decode cX10_shift 17 = .ok (.ireturn, 1) := by decide +kernel
theorem dX10_shift_170 : decode cX10_shift 170 = .ok (.iinc 6 1, 3) := by decide +kernel
theorem dX10_shift_173 : decode cX10_shift 173 = .ok (.goto (-32), 3) := by decide +kernel
theorem dX10_shift_176 : decode cX10_shift 176 = .ok (.iload 5, 2) := by decide +kernel
theorem dX10_shift_178 : decode cX10_shift 178 = .ok (.ireturn, 1) := by decide +kernel
theorem dX10_shift_18 : decode cX10_shift 18 = .ok (.aload_n 0, 1) := by decide +kernel
theorem dX10_shift_19 : decode cX10_shift 19 = .ok (.getfield 229, 3) := by decide +kernel
theorem dX10_shift_2 : decode cX10_shift 2 = .ok (.invokevirtual 399, 3) := by decide +kernel
theorem dX10_shift_22 : decode cX10_shift 22 = .ok (.iload_n 1, 1) := by decide +kernel
theorem dX10_shift_23 : decode cX10_shift 23 = .ok (.iaload, 1) := by decide +kernel
theorem dX10_shift_24 : decode cX10_shift 24 = .ok (.ifCond .lt 12, 3) := by decide +kernel
theorem dX10_shift_27 : decode cX10_shift 27 = .ok (.aload_n 0, 1) := by decide +kernel
theorem dX10_shift_28 : decode cX10_shift 28 = .ok (.getfield 229, 3) := by decide +kernel
theorem dX10_shift_31 : decode cX10_shift 31 = .ok (.iload_n 3, 1) := by decide +kernel
theorem dX10_shift_32 : decode cX10_shift 32 = .ok (.iaload, 1) := by decide +kernel
theorem dX10_shift_33 : decode cX10_shift 33 = .ok (.ifCond .ge 6, 3) := by decide +kernel
theorem dX10_shift_36 : decode cX10_shift 36 = .ok (.bipush (-11), 2) := by decide +kernel
theorem dX10_shift_38 : decode cX10_shift 38 = .ok (.ireturn, 1) := by decide +kernel
theorem dX10_shift_39 : decode cX10_shift 39 = .ok (.aload_n 0, 1) := by decide +kernel
theorem dX10_shift_40 : decode cX10_shift 40 = .ok (.getfield 229, 3) := by decide +kernel
theorem dX10_shift_43 : decode cX10_shift 43 = .ok (.iload_n 1, 1) := by decide +kernel
theorem dX10_shift_44 : decode cX10_shift 44 = .ok (.iaload, 1) := by decide +kernel
theorem dX10_shift_45 : decode cX10_shift 45 = .ok (.aload_n 0, 1) := by decide +kernel
theorem dX10_shift_46 : decode cX10_shift 46 = .ok (.getfield 229, 3) := by decide +kernel
theorem dX10_shift_49 : decode cX10_shift 49 = .ok (.iload_n 3, 1) := by decide +kernel
theorem dX10_shift_5 : decode cX10_shift 5 = .ok (.ifCond .eq 11, 3) := by decide +kernel
theorem dX10_shift_50 : decode cX10_shift 50 = .ok (.iaload, 1) := by decide +kernel
theorem dX10_shift_51 : decode cX10_shift 51 = .ok (.if_icmp .eq 6, 3) := by decide +kernel
theorem dX10_shift_54 : decode cX10_shift 54 = .ok (.bipush (-12), 2) := by decide +kernel
theorem dX10_shift_56 : decode cX10_shift 56 = .ok (.ireturn, 1) := by decide +kernel
theorem dX10_shift_57 : decode cX10_shift 57 = .ok (.iload 5, 2) := by decide +kernel
theorem dX10_shift_59 : decode cX10_shift 59 = .ok (.ifCond .lt 39, 3) := by decide +kernel
theorem dX10_shift_62 : decode cX10_shift 62 = .ok (.iload_n 2, 1) := by decide +kernel
theorem dX10_shift_63 : decode cX10_shift 63 = .ok (.ifCond .lt 35, 3) := by decide +kernel
theorem dX10_shift_66 : decode cX10_shift 66 = .ok (.iload 4, 2) := by decide +kernel
theorem dX10_shift_68 : decode cX10_shift 68 = .ok (.ifCond .lt 30, 3) := by decide +kernel
theorem dX10_shift_71 : decode cX10_shift 71 = .ok (.iload_n 2, 1) := by decide +kernel
theorem dX10_shift_72 : decode cX10_shift 72 = .ok (.aload_n 0, 1) := by decide +kernel
theorem dX10_shift_73 : decode cX10_shift 73 = .ok (.getfield 232, 3) := by decide +kernel
theorem dX10_shift_76 : decode cX10_shift 76 = .ok (.iload_n 1, 1) := by decide +kernel
theorem dX10_shift_77 : decode cX10_shift 77 = .ok (.iaload, 1) := by decide +kernel
theorem dX10_shift_78 : decode cX10_shift 78 = .ok (.iload 5, 2) := by decide +kernel
theorem dX10_shift_8 : decode cX10_shift 8 = .ok (.aload_n 0, 1) := by decide +kernel
theorem dX10_shift_80 : decode cX10_shift 80 = .ok (.isub, 1) := by decide +kernel
theorem dX10_shift_81 : decode cX10_shift 81 = .ok (.if_icmp .gt 17, 3) := by decide +kernel
theorem dX10_shift_84 : decode cX10_shift 84 = .ok (.iload 4, 2) := by decide +kernel
theorem dX10_shift_86 : decode cX10_shift 86 = .ok (.aload_n 0, 1) := by decide +kernel
theorem dX10_shift_87 : decode cX10_shift 87 = .ok (.getfield 232, 3) := by decide +kernel
theorem dX10_shift_9 : decode cX10_shift 9 = .ok (.iload_n 3, 1) := by decide +kernel
theorem dX10_shift_90 : decode cX10_shift 90 = .ok (.iload_n 3, 1) := by decide +kernel
theorem dX10_shift_91 : decode cX10_shift 91 = .ok (.iaload, 1) := by decide +kernel
theorem dX10_shift_92 : decode cX10_shift 92 = .ok (.iload 5, 2) := by decide +kernel
theorem dX10_shift_94 : decode cX10_shift 94 = .ok (.isub, 1) := by decide +kernel
theorem dX10_shift_95 : decode cX10_shift 95 = .ok (.if_icmp .le 6, 3) := by decide +kernel
theorem dX10_shift_98 : decode cX10_shift 98 = .ok (.bipush (-13), 2) := by decide +kernel
set_option maxHeartbeats 8000000 in
set_option maxRecDepth 100000 in
theorem zd_X10_read_x_x (l : Launch) (D : va_G) (y : Nat → ClassId) (a_this : Nat) (a_sort : Nat) (a_length : Nat) (a_item : Nat) (w_windows : Value) (w_minutes : Value) (w_wet : Value) (w_comes : Value) (w_side : Value) (w_herFloor : Value) (w_herRoom : Value) (w_kind : Value) (w_v : Value) (w_floor : Value) (w_room : Value) (w_takes : Value) (w_rows : Value) (w_isShut : Value) (w_houses : Value) (w_the : Value) (w_fed : Value) (w_at : Value) (w_digits : Value) (w_text : Value) (w_clauses : Value) (w_word : Value) (w_number : Value) (w_from : Value) (w_to : Value) (w_sign : Value) (w_waits : Value) (w_signs : Value) (w_waiting : Value) (w_open : Value) (w_letters : Value) (w_pile : Value) (w_since : Value) (w_rain : Value) (w_shutAt : Value) (w_ways : Value) (w_path : Value) (w_rounds : Value) (w_round : Value) (w_bestPath : Value) (w_seen : Value) (w_seenWho : Value) (w_seenHarm : Value) (w_books : Value) (w_bookWho : Value) (w_bookWhen : Value) (w_hasImage : Value) (w_imageThe : Value) (w_imageWindows : Value) (w_imageMinutes : Value) (w_imageWet : Value) (w_imageComes : Value) (w_imageSide : Value) (w_imageFloor : Value) (w_imageRoom : Value) (w_imageRounds : Value) (w_imageSeen : Value) (w_imageBooks : Value) (w_imageKind : Value) (w_imageV : Value) (w_imageFloors : Value) (w_imageRooms : Value) (w_imageTakes : Value) (w_imageRows : Value) (w_imageRound : Value) (w_imageWho : Value) (w_imageHarm : Value) (w_imageBookWho : Value) (w_imageWhen : Value) (w_imageShut : Value) (w_ran : Value) (w_bodies : Value) (w_aside : Value) (f_sort : Nat → Int32) (f_length : Nat → Int32) (f_item : Nat → Int64) (n0 : Int32) (n1 : Int32) (hf_sort : ∀ j_, (-1) ≤ Int32.toInt (f_sort j_) ∧ Int32.toInt (f_sort j_) ≤ 4) (hf_length : ∀ j_, 0 ≤ Int32.toInt (f_length j_) ∧ Int32.toInt (f_length j_) ≤ 60) : zM l D y yX10_read (Cond.code yX10_read cX10_read 3 (some .long) :: zT) { frames := 2, cells := 0, slots := 0, locals := 44 } [.ref a_this, .int n0, .int n1] [(a_this, .inr (9, [w_windows, w_minutes, w_wet, w_comes, w_side, w_herFloor, w_herRoom, w_kind, w_v, w_floor, w_room, w_takes, w_rows, w_isShut, w_houses, w_the, w_fed, w_at, w_digits, w_text, w_clauses, w_word, w_number, w_from, w_to, w_sign, w_waits, w_signs, w_waiting, w_open, w_letters, w_pile, w_since, w_rain, w_shutAt, w_ways, w_path, w_rounds, w_round, w_bestPath, w_seen, w_seenWho, w_seenHarm, w_books, w_bookWho, w_bookWhen, w_hasImage, w_imageThe, w_imageWindows, w_imageMinutes, w_imageWet, w_imageComes, w_imageSide, w_imageFloor, w_imageRoom, w_imageRounds, w_imageSeen, w_imageBooks, w_imageKind, w_imageV, w_imageFloors, w_imageRooms, w_imageTakes, w_imageRows, w_imageRound, w_imageWho, w_imageHarm, w_imageBookWho, w_imageWhen, w_imageShut, w_ran, w_bodies, .ref a_sort, .ref a_length, .ref a_item, w_aside])), (a_sort, .inl (y 0, 6, .inl f_sort)), (a_length, .inl (y 0, 6, .inl f_length)), (a_item, .inl (y 1, 360, .inr (.inl f_item)))] (zQl (S := Unit) D (fun r_ _ => (r_ = (if n0 < 0 then (-9223372036854775808) else (if 5 < n0 then (-9223372036854775808) else (if (f_sort (Int32.toNatClampNeg n0)) < 0 then (-9223372036854775808) else (if n1 < 0 then (-9223372036854775808) else (if ((f_length (Int32.toNatClampNeg n0)) - 1) < n1 then (-9223372036854775808) else (f_item (Int32.toNatClampNeg ((60 * n0) + n1))))))))) ∧ True) (fun _ => [(a_this, .inr (9, [w_windows, w_minutes, w_wet, w_comes, w_side, w_herFloor, w_herRoom, w_kind, w_v, w_floor, w_room, w_takes, w_rows, w_isShut, w_houses, w_the, w_fed, w_at, w_digits, w_text, w_clauses, w_word, w_number, w_from, w_to, w_sign, w_waits, w_signs, w_waiting, w_open, w_letters, w_pile, w_since, w_rain, w_shutAt, w_ways, w_path, w_rounds, w_round, w_bestPath, w_seen, w_seenWho, w_seenHarm, w_books, w_bookWho, w_bookWhen, w_hasImage, w_imageThe, w_imageWindows, w_imageMinutes, w_imageWet, w_imageComes, w_imageSide, w_imageFloor, w_imageRoom, w_imageRounds, w_imageSeen, w_imageBooks, w_imageKind, w_imageV, w_imageFloors, w_imageRooms, w_imageTakes, w_imageRows, w_imageRound, w_imageWho, w_imageHarm, w_imageBookWho, w_imageWhen, w_imageShut, w_ran, w_bodies, .ref a_sort, .ref a_length, .ref a_item, w_aside])), (a_sort, .inl (y 0, 6, .inl f_sort)), (a_length, .inl (y 0, 6, .inl f_length)), (a_item, .inl (y 1, 360, .inr (.inl f_item)))])) := by
  refine zent (cc := cX10_read) (maxL := 3) (ret := (some .long)) (by decide) (Nat.le_of_ble_eq_true rfl) ?_
  intro p e s m below meth c A H locs ls hx hb hml hr ht hown hlocks hin hA hK hE hS hW hl
  replace hown : s.vm.findClass RX10 = some m.cls := hown
  replace hW : zPD D A [(a_this, .inr (9, [w_windows, w_minutes, w_wet, w_comes, w_side, w_herFloor, w_herRoom, w_kind, w_v, w_floor, w_room, w_takes, w_rows, w_isShut, w_houses, w_the, w_fed, w_at, w_digits, w_text, w_clauses, w_word, w_number, w_from, w_to, w_sign, w_waits, w_signs, w_waiting, w_open, w_letters, w_pile, w_since, w_rain, w_shutAt, w_ways, w_path, w_rounds, w_round, w_bestPath, w_seen, w_seenWho, w_seenHarm, w_books, w_bookWho, w_bookWhen, w_hasImage, w_imageThe, w_imageWindows, w_imageMinutes, w_imageWet, w_imageComes, w_imageSide, w_imageFloor, w_imageRoom, w_imageRounds, w_imageSeen, w_imageBooks, w_imageKind, w_imageV, w_imageFloors, w_imageRooms, w_imageTakes, w_imageRows, w_imageRound, w_imageWho, w_imageHarm, w_imageBookWho, w_imageWhen, w_imageShut, w_ran, w_bodies, .ref a_sort, .ref a_length, .ref a_item, w_aside])), (a_sort, .inl (y 0, 6, .inl f_sort)), (a_length, .inl (y 0, 6, .inl f_length)), (a_item, .inl (y 1, 360, .inr (.inl f_item)))] H := hW
  replace hl : lv_has ls 3 [(0, .ref a_this), (1, .int n0), (2, .int n1)] := hl
  refine lv_aload_n hx hb dX10_read_0 rfl (lv_at hl 0 rfl) ?_
  refine lv_iload_n hx hb dX10_read_1 rfl (lv_at hl 1 rfl) ?_
  refine zgo_i (wr := [(a_sort, .inl (y 0, 6, .inl f_sort)), (a_length, .inl (y 0, 6, .inl f_length)), (a_item, .inl (y 1, 360, .inr (.inl f_item)))]) (zrunV (As := [.int n0]) (rest := []) ⟨hx, hb, hml, hown, ht⟩ (zd_X10_isTape_x l D y a_this w_windows w_minutes w_wet w_comes w_side w_herFloor w_herRoom w_kind w_v w_floor w_room w_takes w_rows w_isShut w_houses w_the w_fed w_at w_digits w_text w_clauses w_word w_number w_from w_to w_sign w_waits w_signs w_waiting w_open w_letters w_pile w_since w_rain w_shutAt w_ways w_path w_rounds w_round w_bestPath w_seen w_seenWho w_seenHarm w_books w_bookWho w_bookWhen w_hasImage w_imageThe w_imageWindows w_imageMinutes w_imageWet w_imageComes w_imageSide w_imageFloor w_imageRoom w_imageRounds w_imageSeen w_imageBooks w_imageKind w_imageV w_imageFloors w_imageRooms w_imageTakes w_imageRows w_imageRound w_imageWho w_imageHarm w_imageBookWho w_imageWhen w_imageShut w_ran w_bodies (.ref a_sort) (.ref a_length) (.ref a_item) w_aside n0) (cwV 1 ht (zgV zm_1097 zm_1098 zm_1099 zm_5 zm_1100) rfl rfl rfl (by decide +kernel) ⟨(Nat.le_of_ble_eq_true rfl), (Nat.le_of_ble_eq_true rfl)⟩) hK hE hS hA hW [0] (by decide) rfl 0 rfl rfl rfl rfl hl.1 rfl (Nat.le_of_ble_eq_true rfl) dX10_read_2 (Nat.le_of_ble_eq_true rfl) (Nat.le_of_ble_eq_true rfl)) hS hA hW [0] [1, 2, 3] rfl rfl (by decide) (by decide) (fun r1_ u H locs hw hW hS => ?_)
  replace hW : zPD D A [(a_this, .inr (9, [w_windows, w_minutes, w_wet, w_comes, w_side, w_herFloor, w_herRoom, w_kind, w_v, w_floor, w_room, w_takes, w_rows, w_isShut, w_houses, w_the, w_fed, w_at, w_digits, w_text, w_clauses, w_word, w_number, w_from, w_to, w_sign, w_waits, w_signs, w_waiting, w_open, w_letters, w_pile, w_since, w_rain, w_shutAt, w_ways, w_path, w_rounds, w_round, w_bestPath, w_seen, w_seenWho, w_seenHarm, w_books, w_bookWho, w_bookWhen, w_hasImage, w_imageThe, w_imageWindows, w_imageMinutes, w_imageWet, w_imageComes, w_imageSide, w_imageFloor, w_imageRoom, w_imageRounds, w_imageSeen, w_imageBooks, w_imageKind, w_imageV, w_imageFloors, w_imageRooms, w_imageTakes, w_imageRows, w_imageRound, w_imageWho, w_imageHarm, w_imageBookWho, w_imageWhen, w_imageShut, w_ran, w_bodies, .ref a_sort, .ref a_length, .ref a_item, w_aside])), (a_sort, .inl (y 0, 6, .inl f_sort)), (a_length, .inl (y 0, 6, .inl f_length)), (a_item, .inl (y 1, 360, .inr (.inl f_item)))] H := hW.sub [3, 0, 1, 2] (by decide) rfl
  replace hw : (r1_ = (if n0 < 0 then 0 else (if 5 < n0 then 0 else 1))) ∧ True := hw
  obtain ⟨hw, -⟩ := hw
  by_cases c2_ : n0 < 0
  · have b3_ : (-2147483648) ≤ Int32.toInt n0 ∧ Int32.toInt n0 ≤ (-1) := (by have u0 := zbnd n0; have u1 := (zi_lt _ _).mp c2_; have u2 : (0 : Int32).toInt = 0 := (by decide); omega)
    rw [if_pos c2_] at hw
    subst hw
    refine lv_if_eq (tgt := 34) hx hb dX10_read_5 (by decide) (fun c4_ => ?_) (fun c4_ => absurd (by decide) c4_)
    refine lv_ldc2 (v := (-9223372036854775808)) hx hb hown (ht _ zm_1044) dX10_read_34 ?_
    refine lv_goto (tgt := 51) hx hb dX10_read_37 (by decide) ?_
    exact zret_l (v := (-9223372036854775808)) hx hb hr hlocks hS () ⟨(by show _ = _; rw [if_pos c2_]), trivial⟩ hW (Nat.le_of_ble_eq_true rfl) (Nat.le_of_ble_eq_true rfl) dX10_read_51
  · have b5_ : 0 ≤ Int32.toInt n0 ∧ Int32.toInt n0 ≤ 2147483647 := (by have u0 := zbnd n0; have u1 := (not_congr (zi_lt _ _)).mp c2_; have u2 : (0 : Int32).toInt = 0 := (by decide); omega)
    rw [if_neg c2_] at hw
    by_cases c6_ : 5 < n0
    · have b7_ : 6 ≤ Int32.toInt n0 ∧ Int32.toInt n0 ≤ 2147483647 := (by have u0 := b5_; have u1 := (zi_lt _ _).mp c6_; have u2 : (5 : Int32).toInt = 5 := (by decide); omega)
      rw [if_pos c6_] at hw
      subst hw
      refine lv_if_eq (tgt := 34) hx hb dX10_read_5 (by decide) (fun c8_ => ?_) (fun c8_ => absurd (by decide) c8_)
      refine lv_ldc2 (v := (-9223372036854775808)) hx hb hown (ht _ zm_1044) dX10_read_34 ?_
      refine lv_goto (tgt := 51) hx hb dX10_read_37 (by decide) ?_
      exact zret_l (v := (-9223372036854775808)) hx hb hr hlocks hS () ⟨(by show _ = _; rw [if_neg c2_, if_pos c6_]), trivial⟩ hW (Nat.le_of_ble_eq_true rfl) (Nat.le_of_ble_eq_true rfl) dX10_read_51
    · have b9_ : 0 ≤ Int32.toInt n0 ∧ Int32.toInt n0 ≤ 5 := (by have u0 := b5_; have u1 := (not_congr (zi_lt _ _)).mp c6_; have u2 : (5 : Int32).toInt = 5 := (by decide); omega)
      rw [if_neg c6_] at hw
      subst hw
      refine lv_if_eq (tgt := 34) hx hb dX10_read_5 (by decide) (fun c10_ => absurd c10_ (by decide)) (fun c10_ => ?_)
      refine lv_aload_n hx hb dX10_read_8 rfl (lv_at hl 0 rfl) ?_
      refine zget hx hb ht inlX10 hown hK hW 0 rfl rfl 72 (by decide) zm_212 rfl dX10_read_9 ?_
      refine lv_iload_n hx hb dX10_read_12 rfl (lv_at hl 1 rfl) ?_
      have b11_ : (-1) ≤ Int32.toInt (f_sort (Int32.toNatClampNeg n0)) ∧ Int32.toInt (f_sort (Int32.toNatClampNeg n0)) ≤ 4 := hf_sort (Int32.toNatClampNeg n0)
      refine ziald (v := (f_sort (Int32.toNatClampNeg n0))) hx hb hK hW 1 rfl (vp_in_iff.mpr (by have u0 := b9_; omega)) rfl dX10_read_13 ?_
      refine lv_if_lt (tgt := 34) hx hb dX10_read_14 (by decide) (fun c12_ => ?_) (fun c12_ => ?_)
      · have b13_ : (-1) ≤ Int32.toInt (f_sort (Int32.toNatClampNeg n0)) ∧ Int32.toInt (f_sort (Int32.toNatClampNeg n0)) ≤ (-1) := (by have u0 := b11_; have u1 := (zi_lt _ _).mp c12_; have u2 : (0 : Int32).toInt = 0 := (by decide); omega)
        refine lv_ldc2 (v := (-9223372036854775808)) hx hb hown (ht _ zm_1044) dX10_read_34 ?_
        refine lv_goto (tgt := 51) hx hb dX10_read_37 (by decide) ?_
        exact zret_l (v := (-9223372036854775808)) hx hb hr hlocks hS () ⟨(by show _ = _; rw [if_neg c2_, if_neg c6_, if_pos c12_]), trivial⟩ hW (Nat.le_of_ble_eq_true rfl) (Nat.le_of_ble_eq_true rfl) dX10_read_51
      · have b14_ : 0 ≤ Int32.toInt (f_sort (Int32.toNatClampNeg n0)) ∧ Int32.toInt (f_sort (Int32.toNatClampNeg n0)) ≤ 4 := (by have u0 := b11_; have u1 := (not_congr (zi_lt _ _)).mp c12_; have u2 : (0 : Int32).toInt = 0 := (by decide); omega)
        refine lv_aload_n hx hb dX10_read_17 rfl (lv_at hl 0 rfl) ?_
        refine lv_iload_n hx hb dX10_read_18 rfl (lv_at hl 2 rfl) ?_
        refine lv_iconst (v := 0) hx hb dX10_read_19 (by decide) ?_
        refine lv_aload_n hx hb dX10_read_20 rfl (lv_at hl 0 rfl) ?_
        refine zget hx hb ht inlX10 hown hK hW 0 rfl rfl 73 (by decide) zm_213 rfl dX10_read_21 ?_
        refine lv_iload_n hx hb dX10_read_24 rfl (lv_at hl 1 rfl) ?_
        have b15_ : 0 ≤ Int32.toInt (f_length (Int32.toNatClampNeg n0)) ∧ Int32.toInt (f_length (Int32.toNatClampNeg n0)) ≤ 60 := hf_length (Int32.toNatClampNeg n0)
        refine ziald (v := (f_length (Int32.toNatClampNeg n0))) hx hb hK hW 2 rfl (vp_in_iff.mpr (by have u0 := b9_; omega)) rfl dX10_read_25 ?_
        refine lv_iconst (v := 1) hx hb dX10_read_26 (by decide) ?_
        refine lv_isub hx hb dX10_read_27 ?_
        have q17_ : Int32.toInt ((f_length (Int32.toNatClampNeg n0)) - 1) = Int32.toInt (f_length (Int32.toNatClampNeg n0)) - 1 := by have u0 := b15_; have u1 := (show (1 : Int32).toInt = 1 from (by decide)); have u2 := zsub (f_length (Int32.toNatClampNeg n0)) 1 (by omega) (by omega); omega
        have b16_ : (-1) ≤ Int32.toInt ((f_length (Int32.toNatClampNeg n0)) - 1) ∧ Int32.toInt ((f_length (Int32.toNatClampNeg n0)) - 1) ≤ 59 := by have u0 := b15_; have u1 := (show (1 : Int32).toInt = 1 from (by decide)); omega
        refine zgo_i (wr := [(a_sort, .inl (y 0, 6, .inl f_sort)), (a_length, .inl (y 0, 6, .inl f_length)), (a_item, .inl (y 1, 360, .inr (.inl f_item)))]) (zrunV (As := [.int n1, .int 0, .int ((f_length (Int32.toNatClampNeg n0)) - 1)]) (rest := []) ⟨hx, hb, hml, hown, ht⟩ (zd_X10_in_x_0_x l D y a_this w_windows w_minutes w_wet w_comes w_side w_herFloor w_herRoom w_kind w_v w_floor w_room w_takes w_rows w_isShut w_houses w_the w_fed w_at w_digits w_text w_clauses w_word w_number w_from w_to w_sign w_waits w_signs w_waiting w_open w_letters w_pile w_since w_rain w_shutAt w_ways w_path w_rounds w_round w_bestPath w_seen w_seenWho w_seenHarm w_books w_bookWho w_bookWhen w_hasImage w_imageThe w_imageWindows w_imageMinutes w_imageWet w_imageComes w_imageSide w_imageFloor w_imageRoom w_imageRounds w_imageSeen w_imageBooks w_imageKind w_imageV w_imageFloors w_imageRooms w_imageTakes w_imageRows w_imageRound w_imageWho w_imageHarm w_imageBookWho w_imageWhen w_imageShut w_ran w_bodies (.ref a_sort) (.ref a_length) (.ref a_item) w_aside n1 ((f_length (Int32.toNatClampNeg n0)) - 1)) (cwV 3 ht (zgV zm_240 zm_241 zm_242 zm_5 zm_243) rfl rfl rfl (by decide +kernel) ⟨(Nat.le_of_ble_eq_true rfl), (Nat.le_of_ble_eq_true rfl)⟩) hK hE hS hA hW [0] (by decide) rfl 0 rfl rfl rfl rfl hl.1 rfl (Nat.le_of_ble_eq_true rfl) dX10_read_28 (Nat.le_of_ble_eq_true rfl) (Nat.le_of_ble_eq_true rfl)) hS hA hW [0] [1, 2, 3] rfl rfl (by decide) (by decide) (fun r18_ u H locs hw hW hS => ?_)
        replace hW : zPD D A [(a_this, .inr (9, [w_windows, w_minutes, w_wet, w_comes, w_side, w_herFloor, w_herRoom, w_kind, w_v, w_floor, w_room, w_takes, w_rows, w_isShut, w_houses, w_the, w_fed, w_at, w_digits, w_text, w_clauses, w_word, w_number, w_from, w_to, w_sign, w_waits, w_signs, w_waiting, w_open, w_letters, w_pile, w_since, w_rain, w_shutAt, w_ways, w_path, w_rounds, w_round, w_bestPath, w_seen, w_seenWho, w_seenHarm, w_books, w_bookWho, w_bookWhen, w_hasImage, w_imageThe, w_imageWindows, w_imageMinutes, w_imageWet, w_imageComes, w_imageSide, w_imageFloor, w_imageRoom, w_imageRounds, w_imageSeen, w_imageBooks, w_imageKind, w_imageV, w_imageFloors, w_imageRooms, w_imageTakes, w_imageRows, w_imageRound, w_imageWho, w_imageHarm, w_imageBookWho, w_imageWhen, w_imageShut, w_ran, w_bodies, .ref a_sort, .ref a_length, .ref a_item, w_aside])), (a_sort, .inl (y 0, 6, .inl f_sort)), (a_length, .inl (y 0, 6, .inl f_length)), (a_item, .inl (y 1, 360, .inr (.inl f_item)))] H := hW.sub [3, 0, 1, 2] (by decide) rfl
        replace hw : (r18_ = (if n1 < 0 then 0 else (if ((f_length (Int32.toNatClampNeg n0)) - 1) < n1 then 0 else 1))) ∧ True := hw
        obtain ⟨hw, -⟩ := hw
        by_cases c19_ : n1 < 0
        · have b20_ : (-2147483648) ≤ Int32.toInt n1 ∧ Int32.toInt n1 ≤ (-1) := (by have u0 := zbnd n1; have u1 := (zi_lt _ _).mp c19_; have u2 : (0 : Int32).toInt = 0 := (by decide); omega)
          rw [if_pos c19_] at hw
          subst hw
          refine lv_if_ne (tgt := 40) hx hb dX10_read_31 (by decide) (fun c21_ => absurd (by decide) c21_) (fun c21_ => ?_)
          refine lv_ldc2 (v := (-9223372036854775808)) hx hb hown (ht _ zm_1044) dX10_read_34 ?_
          refine lv_goto (tgt := 51) hx hb dX10_read_37 (by decide) ?_
          exact zret_l (v := (-9223372036854775808)) hx hb hr hlocks hS () ⟨(by show _ = _; rw [if_neg c2_, if_neg c6_, if_neg c12_, if_pos c19_]), trivial⟩ hW (Nat.le_of_ble_eq_true rfl) (Nat.le_of_ble_eq_true rfl) dX10_read_51
        · have b22_ : 0 ≤ Int32.toInt n1 ∧ Int32.toInt n1 ≤ 2147483647 := (by have u0 := zbnd n1; have u1 := (not_congr (zi_lt _ _)).mp c19_; have u2 : (0 : Int32).toInt = 0 := (by decide); omega)
          rw [if_neg c19_] at hw
          by_cases c23_ : ((f_length (Int32.toNatClampNeg n0)) - 1) < n1
          · have d24_ : Int32.toInt ((f_length (Int32.toNatClampNeg n0)) - 1) < Int32.toInt n1 := by have u0 := (zi_lt _ _).mp c23_; omega
            rw [if_pos c23_] at hw
            subst hw
            refine lv_if_ne (tgt := 40) hx hb dX10_read_31 (by decide) (fun c25_ => absurd (by decide) c25_) (fun c25_ => ?_)
            refine lv_ldc2 (v := (-9223372036854775808)) hx hb hown (ht _ zm_1044) dX10_read_34 ?_
            refine lv_goto (tgt := 51) hx hb dX10_read_37 (by decide) ?_
            exact zret_l (v := (-9223372036854775808)) hx hb hr hlocks hS () ⟨(by show _ = _; rw [if_neg c2_, if_neg c6_, if_neg c12_, if_neg c19_, if_pos c23_]), trivial⟩ hW (Nat.le_of_ble_eq_true rfl) (Nat.le_of_ble_eq_true rfl) dX10_read_51
          · have b26_ : 0 ≤ Int32.toInt ((f_length (Int32.toNatClampNeg n0)) - 1) ∧ Int32.toInt ((f_length (Int32.toNatClampNeg n0)) - 1) ≤ 59 := (by have u0 := b16_; have u1 := (not_congr (zi_lt _ _)).mp c23_; have u2 := b22_; omega)
            have b27_ : 0 ≤ Int32.toInt n1 ∧ Int32.toInt n1 ≤ 59 := (by have u0 := b22_; have u1 := (not_congr (zi_lt _ _)).mp c23_; have u2 := b26_; omega)
            have d28_ : Int32.toInt ((f_length (Int32.toNatClampNeg n0)) - 1) ≥ Int32.toInt n1 := by have u0 := (not_congr (zi_lt _ _)).mp c23_; omega
            rw [if_neg c23_] at hw
            subst hw
            refine lv_if_ne (tgt := 40) hx hb dX10_read_31 (by decide) (fun c29_ => ?_) (fun c29_ => absurd c29_ (by decide))
            refine lv_aload_n hx hb dX10_read_40 rfl (lv_at hl 0 rfl) ?_
            refine zget hx hb ht inlX10 hown hK hW 0 rfl rfl 74 (by decide) zm_214 rfl dX10_read_41 ?_
            refine lv_bipush (v := 60) hx hb dX10_read_44 (by decide) ?_
            refine lv_iload_n hx hb dX10_read_46 rfl (lv_at hl 1 rfl) ?_
            refine lv_imul hx hb dX10_read_47 ?_
            have q31_ : Int32.toInt (60 * n0) = 60 * Int32.toInt n0 := by have u0 := (show (60 : Int32).toInt = 60 from (by decide)); have u1 := b9_; have u2 := zmul 60 n0 (by rw [u0]; omega) (by rw [u0]; omega); rw [u0] at u2; omega
            have b30_ : 0 ≤ Int32.toInt (60 * n0) ∧ Int32.toInt (60 * n0) ≤ 300 := by have u0 := (show (60 : Int32).toInt = 60 from (by decide)); have u1 := b9_; omega
            refine lv_iload_n hx hb dX10_read_48 rfl (lv_at hl 2 rfl) ?_
            refine lv_iadd hx hb dX10_read_49 ?_
            have q33_ : Int32.toInt ((60 * n0) + n1) = Int32.toInt (60 * n0) + Int32.toInt n1 := by have u0 := b30_; have u1 := b27_; have u2 := zadd (60 * n0) n1 (by omega) (by omega); omega
            have b32_ : 0 ≤ Int32.toInt ((60 * n0) + n1) ∧ Int32.toInt ((60 * n0) + n1) ≤ 359 := by have u0 := b30_; have u1 := b27_; omega
            refine zlald (v := (f_item (Int32.toNatClampNeg ((60 * n0) + n1)))) hx hb hK hW 3 rfl (vp_in_iff.mpr (by have u0 := b32_; omega)) rfl dX10_read_50 ?_
            exact zret_l (v := (f_item (Int32.toNatClampNeg ((60 * n0) + n1)))) hx hb hr hlocks hS () ⟨(by show _ = _; rw [if_neg c2_, if_neg c6_, if_neg c12_, if_neg c19_, if_neg c23_]), trivial⟩ hW (Nat.le_of_ble_eq_true rfl) (Nat.le_of_ble_eq_true rfl) dX10_read_51
set_option maxHeartbeats 8000000 in
set_option maxRecDepth 100000 in
theorem zd_X10_shift_x_x_x_x_x (l : Launch) (D : va_G) (y : Nat → ClassId) (a_this : Nat) (a_sort : Nat) (a_length : Nat) (a_item : Nat) (a_aside : Nat) (w_windows : Value) (w_minutes : Value) (w_wet : Value) (w_comes : Value) (w_side : Value) (w_herFloor : Value) (w_herRoom : Value) (w_kind : Value) (w_v : Value) (w_floor : Value) (w_room : Value) (w_takes : Value) (w_rows : Value) (w_isShut : Value) (w_houses : Value) (w_the : Value) (w_fed : Value) (w_at : Value) (w_digits : Value) (w_text : Value) (w_clauses : Value) (w_word : Value) (w_number : Value) (w_from : Value) (w_to : Value) (w_sign : Value) (w_waits : Value) (w_signs : Value) (w_waiting : Value) (w_open : Value) (w_letters : Value) (w_pile : Value) (w_since : Value) (w_rain : Value) (w_shutAt : Value) (w_ways : Value) (w_path : Value) (w_rounds : Value) (w_round : Value) (w_bestPath : Value) (w_seen : Value) (w_seenWho : Value) (w_seenHarm : Value) (w_books : Value) (w_bookWho : Value) (w_bookWhen : Value) (w_hasImage : Value) (w_imageThe : Value) (w_imageWindows : Value) (w_imageMinutes : Value) (w_imageWet : Value) (w_imageComes : Value) (w_imageSide : Value) (w_imageFloor : Value) (w_imageRoom : Value) (w_imageRounds : Value) (w_imageSeen : Value) (w_imageBooks : Value) (w_imageKind : Value) (w_imageV : Value) (w_imageFloors : Value) (w_imageRooms : Value) (w_imageTakes : Value) (w_imageRows : Value) (w_imageRound : Value) (w_imageWho : Value) (w_imageHarm : Value) (w_imageBookWho : Value) (w_imageWhen : Value) (w_imageShut : Value) (w_ran : Value) (w_bodies : Value) (f_sort : Nat → Int32) (f_length : Nat → Int32) (f_item : Nat → Int64) (f_aside : Nat → Int64) (n0 : Int32) (n1 : Int32) (n2 : Int32) (n3 : Int32) (n4 : Int32) (hf_sort : ∀ j_, (-1) ≤ Int32.toInt (f_sort j_) ∧ Int32.toInt (f_sort j_) ≤ 4) (hf_length : ∀ j_, 0 ≤ Int32.toInt (f_length j_) ∧ Int32.toInt (f_length j_) ≤ 60) : zM l D y yX10_shift (Cond.code yX10_shift cX10_shift 7 (some .int) :: zT) { frames := 2, cells := 0, slots := 0, locals := 44 } [.ref a_this, .int n0, .int n1, .int n2, .int n3, .int n4] [(a_this, .inr (9, [w_windows, w_minutes, w_wet, w_comes, w_side, w_herFloor, w_herRoom, w_kind, w_v, w_floor, w_room, w_takes, w_rows, w_isShut, w_houses, w_the, w_fed, w_at, w_digits, w_text, w_clauses, w_word, w_number, w_from, w_to, w_sign, w_waits, w_signs, w_waiting, w_open, w_letters, w_pile, w_since, w_rain, w_shutAt, w_ways, w_path, w_rounds, w_round, w_bestPath, w_seen, w_seenWho, w_seenHarm, w_books, w_bookWho, w_bookWhen, w_hasImage, w_imageThe, w_imageWindows, w_imageMinutes, w_imageWet, w_imageComes, w_imageSide, w_imageFloor, w_imageRoom, w_imageRounds, w_imageSeen, w_imageBooks, w_imageKind, w_imageV, w_imageFloors, w_imageRooms, w_imageTakes, w_imageRows, w_imageRound, w_imageWho, w_imageHarm, w_imageBookWho, w_imageWhen, w_imageShut, w_ran, w_bodies, .ref a_sort, .ref a_length, .ref a_item, .ref a_aside])), (a_sort, .inl (y 0, 6, .inl f_sort)), (a_length, .inl (y 0, 6, .inl f_length)), (a_item, .inl (y 1, 360, .inr (.inl f_item))), (a_aside, .inl (y 1, 60, .inr (.inl f_aside)))] (zQi (S := (Nat → Int64) × (Nat → Int64)) D (fun r_ z_ => match z_ with | (g_item_, g_aside_) => ((-13) ≤ Int32.toInt r_ ∧ Int32.toInt r_ ≤ 60) ∧ True) (fun z_ => match z_ with | (g_item_, g_aside_) => [(a_this, .inr (9, [w_windows, w_minutes, w_wet, w_comes, w_side, w_herFloor, w_herRoom, w_kind, w_v, w_floor, w_room, w_takes, w_rows, w_isShut, w_houses, w_the, w_fed, w_at, w_digits, w_text, w_clauses, w_word, w_number, w_from, w_to, w_sign, w_waits, w_signs, w_waiting, w_open, w_letters, w_pile, w_since, w_rain, w_shutAt, w_ways, w_path, w_rounds, w_round, w_bestPath, w_seen, w_seenWho, w_seenHarm, w_books, w_bookWho, w_bookWhen, w_hasImage, w_imageThe, w_imageWindows, w_imageMinutes, w_imageWet, w_imageComes, w_imageSide, w_imageFloor, w_imageRoom, w_imageRounds, w_imageSeen, w_imageBooks, w_imageKind, w_imageV, w_imageFloors, w_imageRooms, w_imageTakes, w_imageRows, w_imageRound, w_imageWho, w_imageHarm, w_imageBookWho, w_imageWhen, w_imageShut, w_ran, w_bodies, .ref a_sort, .ref a_length, .ref a_item, .ref a_aside])), (a_sort, .inl (y 0, 6, .inl f_sort)), (a_length, .inl (y 0, 6, .inl f_length)), (a_item, .inl (y 1, 360, .inr (.inl g_item_))), (a_aside, .inl (y 1, 60, .inr (.inl g_aside_)))])) := by
  refine zent (cc := cX10_shift) (maxL := 7) (ret := (some .int)) (by decide) (Nat.le_of_ble_eq_true rfl) ?_
  intro p e s m below meth c A H locs ls hx hb hml hr ht hown hlocks hin hA hK hE hS hW hl
  replace hown : s.vm.findClass RX10 = some m.cls := hown
  replace hW : zPD D A [(a_this, .inr (9, [w_windows, w_minutes, w_wet, w_comes, w_side, w_herFloor, w_herRoom, w_kind, w_v, w_floor, w_room, w_takes, w_rows, w_isShut, w_houses, w_the, w_fed, w_at, w_digits, w_text, w_clauses, w_word, w_number, w_from, w_to, w_sign, w_waits, w_signs, w_waiting, w_open, w_letters, w_pile, w_since, w_rain, w_shutAt, w_ways, w_path, w_rounds, w_round, w_bestPath, w_seen, w_seenWho, w_seenHarm, w_books, w_bookWho, w_bookWhen, w_hasImage, w_imageThe, w_imageWindows, w_imageMinutes, w_imageWet, w_imageComes, w_imageSide, w_imageFloor, w_imageRoom, w_imageRounds, w_imageSeen, w_imageBooks, w_imageKind, w_imageV, w_imageFloors, w_imageRooms, w_imageTakes, w_imageRows, w_imageRound, w_imageWho, w_imageHarm, w_imageBookWho, w_imageWhen, w_imageShut, w_ran, w_bodies, .ref a_sort, .ref a_length, .ref a_item, .ref a_aside])), (a_sort, .inl (y 0, 6, .inl f_sort)), (a_length, .inl (y 0, 6, .inl f_length)), (a_item, .inl (y 1, 360, .inr (.inl f_item))), (a_aside, .inl (y 1, 60, .inr (.inl f_aside)))] H := hW
  replace hl : lv_has ls 7 [(0, .ref a_this), (1, .int n0), (2, .int n1), (3, .int n2), (4, .int n3), (5, .int n4)] := hl
  refine lv_aload_n hx hb dX10_shift_0 rfl (lv_at hl 0 rfl) ?_
  refine lv_iload_n hx hb dX10_shift_1 rfl (lv_at hl 1 rfl) ?_
  refine zgo_i (wr := [(a_sort, .inl (y 0, 6, .inl f_sort)), (a_length, .inl (y 0, 6, .inl f_length)), (a_item, .inl (y 1, 360, .inr (.inl f_item))), (a_aside, .inl (y 1, 60, .inr (.inl f_aside)))]) (zrunV (As := [.int n0]) (rest := []) ⟨hx, hb, hml, hown, ht⟩ (zd_X10_isTape_x l D y a_this w_windows w_minutes w_wet w_comes w_side w_herFloor w_herRoom w_kind w_v w_floor w_room w_takes w_rows w_isShut w_houses w_the w_fed w_at w_digits w_text w_clauses w_word w_number w_from w_to w_sign w_waits w_signs w_waiting w_open w_letters w_pile w_since w_rain w_shutAt w_ways w_path w_rounds w_round w_bestPath w_seen w_seenWho w_seenHarm w_books w_bookWho w_bookWhen w_hasImage w_imageThe w_imageWindows w_imageMinutes w_imageWet w_imageComes w_imageSide w_imageFloor w_imageRoom w_imageRounds w_imageSeen w_imageBooks w_imageKind w_imageV w_imageFloors w_imageRooms w_imageTakes w_imageRows w_imageRound w_imageWho w_imageHarm w_imageBookWho w_imageWhen w_imageShut w_ran w_bodies (.ref a_sort) (.ref a_length) (.ref a_item) (.ref a_aside) n0) (cwV 1 ht (zgV zm_1097 zm_1098 zm_1099 zm_5 zm_1100) rfl rfl rfl (by decide +kernel) ⟨(Nat.le_of_ble_eq_true rfl), (Nat.le_of_ble_eq_true rfl)⟩) hK hE hS hA hW [0] (by decide) rfl 0 rfl rfl rfl rfl hl.1 rfl (Nat.le_of_ble_eq_true rfl) dX10_shift_2 (Nat.le_of_ble_eq_true rfl) (Nat.le_of_ble_eq_true rfl)) hS hA hW [0] [1, 2, 3, 4] rfl rfl (by decide) (by decide) (fun r1_ u H locs hw hW hS => ?_)
  replace hW : zPD D A [(a_this, .inr (9, [w_windows, w_minutes, w_wet, w_comes, w_side, w_herFloor, w_herRoom, w_kind, w_v, w_floor, w_room, w_takes, w_rows, w_isShut, w_houses, w_the, w_fed, w_at, w_digits, w_text, w_clauses, w_word, w_number, w_from, w_to, w_sign, w_waits, w_signs, w_waiting, w_open, w_letters, w_pile, w_since, w_rain, w_shutAt, w_ways, w_path, w_rounds, w_round, w_bestPath, w_seen, w_seenWho, w_seenHarm, w_books, w_bookWho, w_bookWhen, w_hasImage, w_imageThe, w_imageWindows, w_imageMinutes, w_imageWet, w_imageComes, w_imageSide, w_imageFloor, w_imageRoom, w_imageRounds, w_imageSeen, w_imageBooks, w_imageKind, w_imageV, w_imageFloors, w_imageRooms, w_imageTakes, w_imageRows, w_imageRound, w_imageWho, w_imageHarm, w_imageBookWho, w_imageWhen, w_imageShut, w_ran, w_bodies, .ref a_sort, .ref a_length, .ref a_item, .ref a_aside])), (a_sort, .inl (y 0, 6, .inl f_sort)), (a_length, .inl (y 0, 6, .inl f_length)), (a_item, .inl (y 1, 360, .inr (.inl f_item))), (a_aside, .inl (y 1, 60, .inr (.inl f_aside)))] H := hW.sub [4, 0, 1, 2, 3] (by decide) rfl
  replace hw : (r1_ = (if n0 < 0 then 0 else (if 5 < n0 then 0 else 1))) ∧ True := hw
  obtain ⟨hw, -⟩ := hw
  by_cases c2_ : n0 < 0
  · have b3_ : (-2147483648) ≤ Int32.toInt n0 ∧ Int32.toInt n0 ≤ (-1) := (by have u0 := zbnd n0; have u1 := (zi_lt _ _).mp c2_; have u2 : (0 : Int32).toInt = 0 := (by decide); omega)
    rw [if_pos c2_] at hw
    subst hw
    refine lv_if_eq (tgt := 16) hx hb dX10_shift_5 (by decide) (fun c4_ => ?_) (fun c4_ => absurd (by decide) c4_)
    refine lv_iconst (v := (-1)) hx hb dX10_shift_16 (by decide) ?_
    exact zret_i (v := (-1)) hx hb hr hlocks hS (f_item, f_aside) ⟨(by decide), trivial⟩ hW (Nat.le_of_ble_eq_true rfl) (Nat.le_of_ble_eq_true rfl) dX10_shift_17
  · have b5_ : 0 ≤ Int32.toInt n0 ∧ Int32.toInt n0 ≤ 2147483647 := (by have u0 := zbnd n0; have u1 := (not_congr (zi_lt _ _)).mp c2_; have u2 : (0 : Int32).toInt = 0 := (by decide); omega)
    rw [if_neg c2_] at hw
    by_cases c6_ : 5 < n0
    · have b7_ : 6 ≤ Int32.toInt n0 ∧ Int32.toInt n0 ≤ 2147483647 := (by have u0 := b5_; have u1 := (zi_lt _ _).mp c6_; have u2 : (5 : Int32).toInt = 5 := (by decide); omega)
      rw [if_pos c6_] at hw
      subst hw
      refine lv_if_eq (tgt := 16) hx hb dX10_shift_5 (by decide) (fun c8_ => ?_) (fun c8_ => absurd (by decide) c8_)
      refine lv_iconst (v := (-1)) hx hb dX10_shift_16 (by decide) ?_
      exact zret_i (v := (-1)) hx hb hr hlocks hS (f_item, f_aside) ⟨(by decide), trivial⟩ hW (Nat.le_of_ble_eq_true rfl) (Nat.le_of_ble_eq_true rfl) dX10_shift_17
    · have b9_ : 0 ≤ Int32.toInt n0 ∧ Int32.toInt n0 ≤ 5 := (by have u0 := b5_; have u1 := (not_congr (zi_lt _ _)).mp c6_; have u2 : (5 : Int32).toInt = 5 := (by decide); omega)
      rw [if_neg c6_] at hw
      subst hw
      refine lv_if_eq (tgt := 16) hx hb dX10_shift_5 (by decide) (fun c10_ => absurd c10_ (by decide)) (fun c10_ => ?_)
      refine lv_aload_n hx hb dX10_shift_8 rfl (lv_at hl 0 rfl) ?_
      refine lv_iload_n hx hb dX10_shift_9 rfl (lv_at hl 3 rfl) ?_
      refine zgo_i (wr := [(a_sort, .inl (y 0, 6, .inl f_sort)), (a_length, .inl (y 0, 6, .inl f_length)), (a_item, .inl (y 1, 360, .inr (.inl f_item))), (a_aside, .inl (y 1, 60, .inr (.inl f_aside)))]) (zrunV (As := [.int n2]) (rest := []) ⟨hx, hb, hml, hown, ht⟩ (zd_X10_isTape_x l D y a_this w_windows w_minutes w_wet w_comes w_side w_herFloor w_herRoom w_kind w_v w_floor w_room w_takes w_rows w_isShut w_houses w_the w_fed w_at w_digits w_text w_clauses w_word w_number w_from w_to w_sign w_waits w_signs w_waiting w_open w_letters w_pile w_since w_rain w_shutAt w_ways w_path w_rounds w_round w_bestPath w_seen w_seenWho w_seenHarm w_books w_bookWho w_bookWhen w_hasImage w_imageThe w_imageWindows w_imageMinutes w_imageWet w_imageComes w_imageSide w_imageFloor w_imageRoom w_imageRounds w_imageSeen w_imageBooks w_imageKind w_imageV w_imageFloors w_imageRooms w_imageTakes w_imageRows w_imageRound w_imageWho w_imageHarm w_imageBookWho w_imageWhen w_imageShut w_ran w_bodies (.ref a_sort) (.ref a_length) (.ref a_item) (.ref a_aside) n2) (cwV 1 ht (zgV zm_1097 zm_1098 zm_1099 zm_5 zm_1100) rfl rfl rfl (by decide +kernel) ⟨(Nat.le_of_ble_eq_true rfl), (Nat.le_of_ble_eq_true rfl)⟩) hK hE hS hA hW [0] (by decide) rfl 0 rfl rfl rfl rfl hl.1 rfl (Nat.le_of_ble_eq_true rfl) dX10_shift_10 (Nat.le_of_ble_eq_true rfl) (Nat.le_of_ble_eq_true rfl)) hS hA hW [0] [1, 2, 3, 4] rfl rfl (by decide) (by decide) (fun r11_ u H locs hw hW hS => ?_)
      replace hW : zPD D A [(a_this, .inr (9, [w_windows, w_minutes, w_wet, w_comes, w_side, w_herFloor, w_herRoom, w_kind, w_v, w_floor, w_room, w_takes, w_rows, w_isShut, w_houses, w_the, w_fed, w_at, w_digits, w_text, w_clauses, w_word, w_number, w_from, w_to, w_sign, w_waits, w_signs, w_waiting, w_open, w_letters, w_pile, w_since, w_rain, w_shutAt, w_ways, w_path, w_rounds, w_round, w_bestPath, w_seen, w_seenWho, w_seenHarm, w_books, w_bookWho, w_bookWhen, w_hasImage, w_imageThe, w_imageWindows, w_imageMinutes, w_imageWet, w_imageComes, w_imageSide, w_imageFloor, w_imageRoom, w_imageRounds, w_imageSeen, w_imageBooks, w_imageKind, w_imageV, w_imageFloors, w_imageRooms, w_imageTakes, w_imageRows, w_imageRound, w_imageWho, w_imageHarm, w_imageBookWho, w_imageWhen, w_imageShut, w_ran, w_bodies, .ref a_sort, .ref a_length, .ref a_item, .ref a_aside])), (a_sort, .inl (y 0, 6, .inl f_sort)), (a_length, .inl (y 0, 6, .inl f_length)), (a_item, .inl (y 1, 360, .inr (.inl f_item))), (a_aside, .inl (y 1, 60, .inr (.inl f_aside)))] H := hW.sub [4, 0, 1, 2, 3] (by decide) rfl
      replace hw : (r11_ = (if n2 < 0 then 0 else (if 5 < n2 then 0 else 1))) ∧ True := hw
      obtain ⟨hw, -⟩ := hw
      by_cases c12_ : n2 < 0
      · have b13_ : (-2147483648) ≤ Int32.toInt n2 ∧ Int32.toInt n2 ≤ (-1) := (by have u0 := zbnd n2; have u1 := (zi_lt _ _).mp c12_; have u2 : (0 : Int32).toInt = 0 := (by decide); omega)
        rw [if_pos c12_] at hw
        subst hw
        refine lv_if_ne (tgt := 18) hx hb dX10_shift_13 (by decide) (fun c14_ => absurd (by decide) c14_) (fun c14_ => ?_)
        refine lv_iconst (v := (-1)) hx hb dX10_shift_16 (by decide) ?_
        exact zret_i (v := (-1)) hx hb hr hlocks hS (f_item, f_aside) ⟨(by decide), trivial⟩ hW (Nat.le_of_ble_eq_true rfl) (Nat.le_of_ble_eq_true rfl) dX10_shift_17
      · have b15_ : 0 ≤ Int32.toInt n2 ∧ Int32.toInt n2 ≤ 2147483647 := (by have u0 := zbnd n2; have u1 := (not_congr (zi_lt _ _)).mp c12_; have u2 : (0 : Int32).toInt = 0 := (by decide); omega)
        rw [if_neg c12_] at hw
        by_cases c16_ : 5 < n2
        · have b17_ : 6 ≤ Int32.toInt n2 ∧ Int32.toInt n2 ≤ 2147483647 := (by have u0 := b15_; have u1 := (zi_lt _ _).mp c16_; have u2 : (5 : Int32).toInt = 5 := (by decide); omega)
          rw [if_pos c16_] at hw
          subst hw
          refine lv_if_ne (tgt := 18) hx hb dX10_shift_13 (by decide) (fun c18_ => absurd (by decide) c18_) (fun c18_ => ?_)
          refine lv_iconst (v := (-1)) hx hb dX10_shift_16 (by decide) ?_
          exact zret_i (v := (-1)) hx hb hr hlocks hS (f_item, f_aside) ⟨(by decide), trivial⟩ hW (Nat.le_of_ble_eq_true rfl) (Nat.le_of_ble_eq_true rfl) dX10_shift_17
        · have b19_ : 0 ≤ Int32.toInt n2 ∧ Int32.toInt n2 ≤ 5 := (by have u0 := b15_; have u1 := (not_congr (zi_lt _ _)).mp c16_; have u2 : (5 : Int32).toInt = 5 := (by decide); omega)
          rw [if_neg c16_] at hw
          subst hw
          refine lv_if_ne (tgt := 18) hx hb dX10_shift_13 (by decide) (fun c20_ => ?_) (fun c20_ => absurd c20_ (by decide))
          refine lv_aload_n hx hb dX10_shift_18 rfl (lv_at hl 0 rfl) ?_
          refine zget hx hb ht inlX10 hown hK hW 0 rfl rfl 72 (by decide) zm_212 rfl dX10_shift_19 ?_
          refine lv_iload_n hx hb dX10_shift_22 rfl (lv_at hl 1 rfl) ?_
          have b21_ : (-1) ≤ Int32.toInt (f_sort (Int32.toNatClampNeg n0)) ∧ Int32.toInt (f_sort (Int32.toNatClampNeg n0)) ≤ 4 := hf_sort (Int32.toNatClampNeg n0)
          refine ziald (v := (f_sort (Int32.toNatClampNeg n0))) hx hb hK hW 1 rfl (vp_in_iff.mpr (by have u0 := b9_; omega)) rfl dX10_shift_23 ?_
          refine lv_if_lt (tgt := 36) hx hb dX10_shift_24 (by decide) (fun c22_ => ?_) (fun c22_ => ?_)
          · have b23_ : (-1) ≤ Int32.toInt (f_sort (Int32.toNatClampNeg n0)) ∧ Int32.toInt (f_sort (Int32.toNatClampNeg n0)) ≤ (-1) := (by have u0 := b21_; have u1 := (zi_lt _ _).mp c22_; have u2 : (0 : Int32).toInt = 0 := (by decide); omega)
            refine lv_bipush (v := (-11)) hx hb dX10_shift_36 (by decide) ?_
            exact zret_i (v := (-11)) hx hb hr hlocks hS (f_item, f_aside) ⟨(by decide), trivial⟩ hW (Nat.le_of_ble_eq_true rfl) (Nat.le_of_ble_eq_true rfl) dX10_shift_38
          · have b24_ : 0 ≤ Int32.toInt (f_sort (Int32.toNatClampNeg n0)) ∧ Int32.toInt (f_sort (Int32.toNatClampNeg n0)) ≤ 4 := (by have u0 := b21_; have u1 := (not_congr (zi_lt _ _)).mp c22_; have u2 : (0 : Int32).toInt = 0 := (by decide); omega)
            refine lv_aload_n hx hb dX10_shift_27 rfl (lv_at hl 0 rfl) ?_
            refine zget hx hb ht inlX10 hown hK hW 0 rfl rfl 72 (by decide) zm_212 rfl dX10_shift_28 ?_
            refine lv_iload_n hx hb dX10_shift_31 rfl (lv_at hl 3 rfl) ?_
            have b25_ : (-1) ≤ Int32.toInt (f_sort (Int32.toNatClampNeg n2)) ∧ Int32.toInt (f_sort (Int32.toNatClampNeg n2)) ≤ 4 := hf_sort (Int32.toNatClampNeg n2)
            refine ziald (v := (f_sort (Int32.toNatClampNeg n2))) hx hb hK hW 1 rfl (vp_in_iff.mpr (by have u0 := b19_; omega)) rfl dX10_shift_32 ?_
            refine lv_if_ge (tgt := 39) hx hb dX10_shift_33 (by decide) (fun c26_ => ?_) (fun c26_ => ?_)
            · have b27_ : 0 ≤ Int32.toInt (f_sort (Int32.toNatClampNeg n2)) ∧ Int32.toInt (f_sort (Int32.toNatClampNeg n2)) ≤ 4 := (by have u0 := b25_; have u1 := (zi_le _ _).mp c26_; have u2 : (0 : Int32).toInt = 0 := (by decide); omega)
              refine lv_aload_n hx hb dX10_shift_39 rfl (lv_at hl 0 rfl) ?_
              refine zget hx hb ht inlX10 hown hK hW 0 rfl rfl 72 (by decide) zm_212 rfl dX10_shift_40 ?_
              refine lv_iload_n hx hb dX10_shift_43 rfl (lv_at hl 1 rfl) ?_
              refine ziald (v := (f_sort (Int32.toNatClampNeg n0))) hx hb hK hW 1 rfl (vp_in_iff.mpr (by have u0 := b9_; omega)) rfl dX10_shift_44 ?_
              refine lv_aload_n hx hb dX10_shift_45 rfl (lv_at hl 0 rfl) ?_
              refine zget hx hb ht inlX10 hown hK hW 0 rfl rfl 72 (by decide) zm_212 rfl dX10_shift_46 ?_
              refine lv_iload_n hx hb dX10_shift_49 rfl (lv_at hl 3 rfl) ?_
              refine ziald (v := (f_sort (Int32.toNatClampNeg n2))) hx hb hK hW 1 rfl (vp_in_iff.mpr (by have u0 := b19_; omega)) rfl dX10_shift_50 ?_
              refine lv_icmp_eq (tgt := 57) hx hb dX10_shift_51 (by decide) (fun c28_ => ?_) (fun c28_ => ?_)
              · have d29_ : Int32.toInt (f_sort (Int32.toNatClampNeg n0)) = Int32.toInt (f_sort (Int32.toNatClampNeg n2)) := by have u0 := (zi_eq _ _).mp c28_; omega
                refine lv_iload hx hb dX10_shift_57 (lv_at hl 5 rfl) ?_
                refine lv_if_lt (tgt := 98) hx hb dX10_shift_59 (by decide) (fun c30_ => ?_) (fun c30_ => ?_)
                · have b31_ : (-2147483648) ≤ Int32.toInt n4 ∧ Int32.toInt n4 ≤ (-1) := (by have u0 := zbnd n4; have u1 := (zi_lt _ _).mp c30_; have u2 : (0 : Int32).toInt = 0 := (by decide); omega)
                  refine lv_bipush (v := (-13)) hx hb dX10_shift_98 (by decide) ?_
                  exact zret_i (v := (-13)) hx hb hr hlocks hS (f_item, f_aside) ⟨(by decide), trivial⟩ hW (Nat.le_of_ble_eq_true rfl) (Nat.le_of_ble_eq_true rfl) dX10_shift_100
                · have b32_ : 0 ≤ Int32.toInt n4 ∧ Int32.toInt n4 ≤ 2147483647 := (by have u0 := zbnd n4; have u1 := (not_congr (zi_lt _ _)).mp c30_; have u2 : (0 : Int32).toInt = 0 := (by decide); omega)
                  refine lv_iload_n hx hb dX10_shift_62 rfl (lv_at hl 2 rfl) ?_
                  refine lv_if_lt (tgt := 98) hx hb dX10_shift_63 (by decide) (fun c33_ => ?_) (fun c33_ => ?_)
                  · have b34_ : (-2147483648) ≤ Int32.toInt n1 ∧ Int32.toInt n1 ≤ (-1) := (by have u0 := zbnd n1; have u1 := (zi_lt _ _).mp c33_; have u2 : (0 : Int32).toInt = 0 := (by decide); omega)
                    refine lv_bipush (v := (-13)) hx hb dX10_shift_98 (by decide) ?_
                    exact zret_i (v := (-13)) hx hb hr hlocks hS (f_item, f_aside) ⟨(by decide), trivial⟩ hW (Nat.le_of_ble_eq_true rfl) (Nat.le_of_ble_eq_true rfl) dX10_shift_100
                  · have b35_ : 0 ≤ Int32.toInt n1 ∧ Int32.toInt n1 ≤ 2147483647 := (by have u0 := zbnd n1; have u1 := (not_congr (zi_lt _ _)).mp c33_; have u2 : (0 : Int32).toInt = 0 := (by decide); omega)
                    refine lv_iload hx hb dX10_shift_66 (lv_at hl 4 rfl) ?_
                    refine lv_if_lt (tgt := 98) hx hb dX10_shift_68 (by decide) (fun c36_ => ?_) (fun c36_ => ?_)
                    · have b37_ : (-2147483648) ≤ Int32.toInt n3 ∧ Int32.toInt n3 ≤ (-1) := (by have u0 := zbnd n3; have u1 := (zi_lt _ _).mp c36_; have u2 : (0 : Int32).toInt = 0 := (by decide); omega)
                      refine lv_bipush (v := (-13)) hx hb dX10_shift_98 (by decide) ?_
                      exact zret_i (v := (-13)) hx hb hr hlocks hS (f_item, f_aside) ⟨(by decide), trivial⟩ hW (Nat.le_of_ble_eq_true rfl) (Nat.le_of_ble_eq_true rfl) dX10_shift_100
                    · have b38_ : 0 ≤ Int32.toInt n3 ∧ Int32.toInt n3 ≤ 2147483647 := (by have u0 := zbnd n3; have u1 := (not_congr (zi_lt _ _)).mp c36_; have u2 : (0 : Int32).toInt = 0 := (by decide); omega)
                      refine lv_iload_n hx hb dX10_shift_71 rfl (lv_at hl 2 rfl) ?_
                      refine lv_aload_n hx hb dX10_shift_72 rfl (lv_at hl 0 rfl) ?_
                      refine zget hx hb ht inlX10 hown hK hW 0 rfl rfl 73 (by decide) zm_213 rfl dX10_shift_73 ?_
                      refine lv_iload_n hx hb dX10_shift_76 rfl (lv_at hl 1 rfl) ?_
                      have b39_ : 0 ≤ Int32.toInt (f_length (Int32.toNatClampNeg n0)) ∧ Int32.toInt (f_length (Int32.toNatClampNeg n0)) ≤ 60 := hf_length (Int32.toNatClampNeg n0)
                      refine ziald (v := (f_length (Int32.toNatClampNeg n0))) hx hb hK hW 2 rfl (vp_in_iff.mpr (by have u0 := b9_; omega)) rfl dX10_shift_77 ?_
                      refine lv_iload hx hb dX10_shift_78 (lv_at hl 5 rfl) ?_
                      refine lv_isub hx hb dX10_shift_80 ?_
                      have q41_ : Int32.toInt ((f_length (Int32.toNatClampNeg n0)) - n4) = Int32.toInt (f_length (Int32.toNatClampNeg n0)) - Int32.toInt n4 := by have u0 := b39_; have u1 := b32_; have u2 := zsub (f_length (Int32.toNatClampNeg n0)) n4 (by omega) (by omega); omega
                      have b40_ : (-2147483647) ≤ Int32.toInt ((f_length (Int32.toNatClampNeg n0)) - n4) ∧ Int32.toInt ((f_length (Int32.toNatClampNeg n0)) - n4) ≤ 60 := by have u0 := b39_; have u1 := b32_; omega
                      refine lv_icmp_gt (tgt := 98) hx hb dX10_shift_81 (by decide) (fun c42_ => ?_) (fun c42_ => ?_)
                      · have d43_ : Int32.toInt ((f_length (Int32.toNatClampNeg n0)) - n4) < Int32.toInt n1 := by have u0 := (zi_lt _ _).mp c42_; omega
                        refine lv_bipush (v := (-13)) hx hb dX10_shift_98 (by decide) ?_
                        exact zret_i (v := (-13)) hx hb hr hlocks hS (f_item, f_aside) ⟨(by decide), trivial⟩ hW (Nat.le_of_ble_eq_true rfl) (Nat.le_of_ble_eq_true rfl) dX10_shift_100
                      · have b44_ : 0 ≤ Int32.toInt ((f_length (Int32.toNatClampNeg n0)) - n4) ∧ Int32.toInt ((f_length (Int32.toNatClampNeg n0)) - n4) ≤ 60 := (by have u0 := b40_; have u1 := (not_congr (zi_lt _ _)).mp c42_; have u2 := b35_; omega)
                        have b45_ : 0 ≤ Int32.toInt n1 ∧ Int32.toInt n1 ≤ 60 := (by have u0 := b35_; have u1 := (not_congr (zi_lt _ _)).mp c42_; have u2 := b44_; omega)
                        have d46_ : Int32.toInt ((f_length (Int32.toNatClampNeg n0)) - n4) ≥ Int32.toInt n1 := by have u0 := (not_congr (zi_lt _ _)).mp c42_; omega
                        refine lv_iload hx hb dX10_shift_84 (lv_at hl 4 rfl) ?_
                        refine lv_aload_n hx hb dX10_shift_86 rfl (lv_at hl 0 rfl) ?_
                        refine zget hx hb ht inlX10 hown hK hW 0 rfl rfl 73 (by decide) zm_213 rfl dX10_shift_87 ?_
                        refine lv_iload_n hx hb dX10_shift_90 rfl (lv_at hl 3 rfl) ?_
                        have b47_ : 0 ≤ Int32.toInt (f_length (Int32.toNatClampNeg n2)) ∧ Int32.toInt (f_length (Int32.toNatClampNeg n2)) ≤ 60 := hf_length (Int32.toNatClampNeg n2)
                        refine ziald (v := (f_length (Int32.toNatClampNeg n2))) hx hb hK hW 2 rfl (vp_in_iff.mpr (by have u0 := b19_; omega)) rfl dX10_shift_91 ?_
                        refine lv_iload hx hb dX10_shift_92 (lv_at hl 5 rfl) ?_
                        refine lv_isub hx hb dX10_shift_94 ?_
                        have q49_ : Int32.toInt ((f_length (Int32.toNatClampNeg n2)) - n4) = Int32.toInt (f_length (Int32.toNatClampNeg n2)) - Int32.toInt n4 := by have u0 := b47_; have u1 := b32_; have u2 := zsub (f_length (Int32.toNatClampNeg n2)) n4 (by omega) (by omega); omega
                        have b48_ : (-2147483647) ≤ Int32.toInt ((f_length (Int32.toNatClampNeg n2)) - n4) ∧ Int32.toInt ((f_length (Int32.toNatClampNeg n2)) - n4) ≤ 60 := by have u0 := b47_; have u1 := b32_; omega
                        refine lv_icmp_le (tgt := 101) hx hb dX10_shift_95 (by decide) (fun c50_ => ?_) (fun c50_ => ?_)
                        · have b51_ : 0 ≤ Int32.toInt n3 ∧ Int32.toInt n3 ≤ 60 := (by have u0 := b38_; have u1 := (zi_le _ _).mp c50_; have u2 := b48_; omega)
                          have b52_ : 0 ≤ Int32.toInt ((f_length (Int32.toNatClampNeg n2)) - n4) ∧ Int32.toInt ((f_length (Int32.toNatClampNeg n2)) - n4) ≤ 60 := (by have u0 := b48_; have u1 := (zi_le _ _).mp c50_; have u2 := b51_; omega)
                          have d53_ : Int32.toInt n3 ≤ Int32.toInt ((f_length (Int32.toNatClampNeg n2)) - n4) := by have u0 := (zi_le _ _).mp c50_; omega
                          refine lv_iconst (v := 0) hx hb dX10_shift_101 (by decide) ?_
                          refine lv_istore (lv' := [(6, .int 0), (0, .ref a_this), (1, .int n0), (2, .int n1), (3, .int n2), (4, .int n3), (5, .int n4)]) hx hb dX10_shift_102 hl (by decide) rfl (fun ls hl => ?_)
                          obtain ⟨x54_, ex54_⟩ : ∃ z : Int32, z = 0 := ⟨_, rfl⟩
                          obtain ⟨g55_, eg55_⟩ : ∃ z : Nat → Int64, z = f_aside := ⟨_, rfl⟩
                          obtain ⟨n104_, hI104_⟩ : ∃ n : Nat, (0 ≤ Int32.toInt x54_ ∧ Int32.toInt x54_ ≤ 60) ∧ (60 - Int32.toInt x54_ < (n : Int)) ∧ zPD D A [(a_this, .inr (9, [w_windows, w_minutes, w_wet, w_comes, w_side, w_herFloor, w_herRoom, w_kind, w_v, w_floor, w_room, w_takes, w_rows, w_isShut, w_houses, w_the, w_fed, w_at, w_digits, w_text, w_clauses, w_word, w_number, w_from, w_to, w_sign, w_waits, w_signs, w_waiting, w_open, w_letters, w_pile, w_since, w_rain, w_shutAt, w_ways, w_path, w_rounds, w_round, w_bestPath, w_seen, w_seenWho, w_seenHarm, w_books, w_bookWho, w_bookWhen, w_hasImage, w_imageThe, w_imageWindows, w_imageMinutes, w_imageWet, w_imageComes, w_imageSide, w_imageFloor, w_imageRoom, w_imageRounds, w_imageSeen, w_imageBooks, w_imageKind, w_imageV, w_imageFloors, w_imageRooms, w_imageTakes, w_imageRows, w_imageRound, w_imageWho, w_imageHarm, w_imageBookWho, w_imageWhen, w_imageShut, w_ran, w_bodies, .ref a_sort, .ref a_length, .ref a_item, .ref a_aside])), (a_sort, .inl (y 0, 6, .inl f_sort)), (a_length, .inl (y 0, 6, .inl f_length)), (a_item, .inl (y 1, 360, .inr (.inl f_item))), (a_aside, .inl (y 1, 60, .inr (.inl g55_)))] H ∧ va_S A s.heap H locs ∧ lv_has ls 7 [(6, .int x54_), (0, .ref a_this), (1, .int n0), (2, .int n1), (3, .int n2), (4, .int n3), (5, .int n4)] := ⟨(60 - Int32.toInt x54_ + 1).toNat, by (try rw [ex54_]); exact (by decide), by omega, by (try rw [ex54_]); (try rw [eg55_]); exact hW, hS, by (try rw [ex54_]); (try rw [eg55_]); exact hl⟩
                          clear hW hS hl ex54_ eg55_
                          induction n104_ generalizing x54_ g55_ H locs ls with
                          | zero => obtain ⟨bx54_, hn, -⟩ := hI104_; exact absurd hn (by omega)
                          | succ n ih =>
                            obtain ⟨bx54_, hn, hW, hS, hl⟩ := hI104_
                            refine lv_iload hx hb dX10_shift_104 (lv_at hl 0 rfl) ?_
                            refine lv_iload hx hb dX10_shift_106 (lv_at hl 6 rfl) ?_
                            refine lv_icmp_ge (tgt := 138) hx hb dX10_shift_108 (by decide) (fun c56_ => ?_) (fun c56_ => ?_)
                            · have b57_ : 0 ≤ Int32.toInt n4 ∧ Int32.toInt n4 ≤ 60 := (by have u0 := b32_; have u1 := (zi_le _ _).mp c56_; have u2 := bx54_; omega)
                              have d58_ : Int32.toInt n4 ≤ Int32.toInt x54_ := by have u0 := (zi_le _ _).mp c56_; omega
                              refine lv_iconst (v := 0) hx hb dX10_shift_138 (by decide) ?_
                              refine lv_istore (lv' := [(6, .int 0), (0, .ref a_this), (1, .int n0), (2, .int n1), (3, .int n2), (4, .int n3), (5, .int n4)]) hx hb dX10_shift_139 hl (by decide) rfl (fun ls hl => ?_)
                              obtain ⟨x59_, ex59_⟩ : ∃ z : Int32, z = 0 := ⟨_, rfl⟩
                              obtain ⟨g60_, eg60_⟩ : ∃ z : Nat → Int64, z = f_item := ⟨_, rfl⟩
                              obtain ⟨n141_, hI141_⟩ : ∃ n : Nat, (0 ≤ Int32.toInt x59_ ∧ Int32.toInt x59_ ≤ 60) ∧ (60 - Int32.toInt x59_ < (n : Int)) ∧ zPD D A [(a_this, .inr (9, [w_windows, w_minutes, w_wet, w_comes, w_side, w_herFloor, w_herRoom, w_kind, w_v, w_floor, w_room, w_takes, w_rows, w_isShut, w_houses, w_the, w_fed, w_at, w_digits, w_text, w_clauses, w_word, w_number, w_from, w_to, w_sign, w_waits, w_signs, w_waiting, w_open, w_letters, w_pile, w_since, w_rain, w_shutAt, w_ways, w_path, w_rounds, w_round, w_bestPath, w_seen, w_seenWho, w_seenHarm, w_books, w_bookWho, w_bookWhen, w_hasImage, w_imageThe, w_imageWindows, w_imageMinutes, w_imageWet, w_imageComes, w_imageSide, w_imageFloor, w_imageRoom, w_imageRounds, w_imageSeen, w_imageBooks, w_imageKind, w_imageV, w_imageFloors, w_imageRooms, w_imageTakes, w_imageRows, w_imageRound, w_imageWho, w_imageHarm, w_imageBookWho, w_imageWhen, w_imageShut, w_ran, w_bodies, .ref a_sort, .ref a_length, .ref a_item, .ref a_aside])), (a_sort, .inl (y 0, 6, .inl f_sort)), (a_length, .inl (y 0, 6, .inl f_length)), (a_item, .inl (y 1, 360, .inr (.inl g60_))), (a_aside, .inl (y 1, 60, .inr (.inl g55_)))] H ∧ va_S A s.heap H locs ∧ lv_has ls 7 [(6, .int x59_), (0, .ref a_this), (1, .int n0), (2, .int n1), (3, .int n2), (4, .int n3), (5, .int n4)] := ⟨(60 - Int32.toInt x59_ + 1).toNat, by (try rw [ex59_]); exact (by decide), by omega, by (try rw [ex59_]); (try rw [eg60_]); exact hW, hS, by (try rw [ex59_]); (try rw [eg60_]); exact hl⟩
                              clear hW hS hl ex59_ eg60_
                              induction n141_ generalizing x59_ g60_ H locs ls with
                              | zero => obtain ⟨bx59_, hn, -⟩ := hI141_; exact absurd hn (by omega)
                              | succ n ih =>
                                obtain ⟨bx59_, hn, hW, hS, hl⟩ := hI141_
                                refine lv_iload hx hb dX10_shift_141 (lv_at hl 0 rfl) ?_
                                refine lv_iload hx hb dX10_shift_143 (lv_at hl 6 rfl) ?_
                                refine lv_icmp_ge (tgt := 176) hx hb dX10_shift_145 (by decide) (fun c61_ => ?_) (fun c61_ => ?_)
                                · have d62_ : Int32.toInt n4 ≤ Int32.toInt x59_ := by have u0 := (zi_le _ _).mp c61_; omega
                                  refine lv_iload hx hb dX10_shift_176 (lv_at hl 6 rfl) ?_
                                  exact zret_i (v := n4) hx hb hr hlocks hS (g60_, g55_) ⟨(by have u0 := b57_; omega), trivial⟩ hW (Nat.le_of_ble_eq_true rfl) (Nat.le_of_ble_eq_true rfl) dX10_shift_178
                                · have b63_ : 1 ≤ Int32.toInt n4 ∧ Int32.toInt n4 ≤ 60 := (by have u0 := b57_; have u1 := (not_congr (zi_le _ _)).mp c61_; have u2 := bx59_; omega)
                                  have b64_ : 0 ≤ Int32.toInt x59_ ∧ Int32.toInt x59_ ≤ 59 := (by have u0 := bx59_; have u1 := (not_congr (zi_le _ _)).mp c61_; have u2 := b63_; omega)
                                  have d65_ : Int32.toInt n4 > Int32.toInt x59_ := by have u0 := (not_congr (zi_le _ _)).mp c61_; omega
                                  refine lv_aload_n hx hb dX10_shift_148 rfl (lv_at hl 1 rfl) ?_
                                  refine zget hx hb ht inlX10 hown hK hW 0 rfl rfl 74 (by decide) zm_214 rfl dX10_shift_149 ?_
                                  refine lv_bipush (v := 60) hx hb dX10_shift_152 (by decide) ?_
                                  refine lv_iload_n hx hb dX10_shift_154 rfl (lv_at hl 4 rfl) ?_
                                  refine lv_imul hx hb dX10_shift_155 ?_
                                  have q67_ : Int32.toInt (60 * n2) = 60 * Int32.toInt n2 := by have u0 := (show (60 : Int32).toInt = 60 from (by decide)); have u1 := b19_; have u2 := zmul 60 n2 (by rw [u0]; omega) (by rw [u0]; omega); rw [u0] at u2; omega
                                  have b66_ : 0 ≤ Int32.toInt (60 * n2) ∧ Int32.toInt (60 * n2) ≤ 300 := by have u0 := (show (60 : Int32).toInt = 60 from (by decide)); have u1 := b19_; omega
                                  refine lv_iload hx hb dX10_shift_156 (lv_at hl 5 rfl) ?_
                                  refine lv_iadd hx hb dX10_shift_158 ?_
                                  have q69_ : Int32.toInt ((60 * n2) + n3) = Int32.toInt (60 * n2) + Int32.toInt n3 := by have u0 := b66_; have u1 := b51_; have u2 := zadd (60 * n2) n3 (by omega) (by omega); omega
                                  have b68_ : 0 ≤ Int32.toInt ((60 * n2) + n3) ∧ Int32.toInt ((60 * n2) + n3) ≤ 360 := by have u0 := b66_; have u1 := b51_; omega
                                  refine lv_iload hx hb dX10_shift_159 (lv_at hl 0 rfl) ?_
                                  refine lv_iadd hx hb dX10_shift_161 ?_
                                  have q71_ : Int32.toInt (((60 * n2) + n3) + x59_) = Int32.toInt ((60 * n2) + n3) + Int32.toInt x59_ := by have u0 := b68_; have u1 := b64_; have u2 := zadd ((60 * n2) + n3) x59_ (by omega) (by omega); omega
                                  have b70_ : 0 ≤ Int32.toInt (((60 * n2) + n3) + x59_) ∧ Int32.toInt (((60 * n2) + n3) + x59_) ≤ 419 := by have u0 := b68_; have u1 := b64_; omega
                                  refine lv_aload_n hx hb dX10_shift_162 rfl (lv_at hl 1 rfl) ?_
                                  refine zget hx hb ht inlX10 hown hK hW 0 rfl rfl 75 (by decide) zm_215 rfl dX10_shift_163 ?_
                                  refine lv_iload hx hb dX10_shift_166 (lv_at hl 0 rfl) ?_
                                  refine zlald (v := (g55_ (Int32.toNatClampNeg x59_))) hx hb hK hW 4 rfl (vp_in_iff.mpr (by have u0 := b64_; omega)) rfl dX10_shift_168 ?_
                                  refine zlastN (ws' := fun g72_ => [(a_this, .inr (9, [w_windows, w_minutes, w_wet, w_comes, w_side, w_herFloor, w_herRoom, w_kind, w_v, w_floor, w_room, w_takes, w_rows, w_isShut, w_houses, w_the, w_fed, w_at, w_digits, w_text, w_clauses, w_word, w_number, w_from, w_to, w_sign, w_waits, w_signs, w_waiting, w_open, w_letters, w_pile, w_since, w_rain, w_shutAt, w_ways, w_path, w_rounds, w_round, w_bestPath, w_seen, w_seenWho, w_seenHarm, w_books, w_bookWho, w_bookWhen, w_hasImage, w_imageThe, w_imageWindows, w_imageMinutes, w_imageWet, w_imageComes, w_imageSide, w_imageFloor, w_imageRoom, w_imageRounds, w_imageSeen, w_imageBooks, w_imageKind, w_imageV, w_imageFloors, w_imageRooms, w_imageTakes, w_imageRows, w_imageRound, w_imageWho, w_imageHarm, w_imageBookWho, w_imageWhen, w_imageShut, w_ran, w_bodies, .ref a_sort, .ref a_length, .ref a_item, .ref a_aside])), (a_sort, .inl (y 0, 6, .inl f_sort)), (a_length, .inl (y 0, 6, .inl f_length)), (a_item, .inl (y 1, 360, .inr (.inl g72_))), (a_aside, .inl (y 1, 60, .inr (.inl g55_)))]) hx hb hK hS hW 3 rfl (vp_in_iff.mpr (by omega)) (fun _ => rfl) dX10_shift_169 (fun g72_ H locs eg72_ hW hS => ?_)
                                  refine lv_iinc (k := 0) (v := (x59_ + 1)) (lv' := [(6, .int (x59_ + 1)), (0, .ref a_this), (1, .int n0), (2, .int n1), (3, .int n2), (4, .int n3), (5, .int n4)]) hx hb dX10_shift_170 hl rfl (by rfl) (by decide) rfl (fun ls hl => ?_)
                                  have q74_ : Int32.toInt (x59_ + 1) = Int32.toInt x59_ + 1 := by have u0 := b64_; have u1 := (show (1 : Int32).toInt = 1 from (by decide)); have u2 := zadd x59_ 1 (by omega) (by omega); omega
                                  have b73_ : 1 ≤ Int32.toInt (x59_ + 1) ∧ Int32.toInt (x59_ + 1) ≤ 60 := by have u0 := b64_; have u1 := (show (1 : Int32).toInt = 1 from (by decide)); omega
                                  refine lv_goto (tgt := 141) hx hb dX10_shift_173 (by decide) ?_
                                  exact ih _ _ _ _ _ ⟨(by have u0 := b73_; omega), by have u0 := q74_; omega, hW, hS, (lv_sub hl [0, 1, 2, 3, 4, 5, 6] rfl)⟩
                            · have b75_ : 1 ≤ Int32.toInt n4 ∧ Int32.toInt n4 ≤ 2147483647 := (by have u0 := b32_; have u1 := (not_congr (zi_le _ _)).mp c56_; have u2 := bx54_; omega)
                              have d76_ : Int32.toInt n4 > Int32.toInt x54_ := by have u0 := (not_congr (zi_le _ _)).mp c56_; omega
                              refine lv_aload_n hx hb dX10_shift_111 rfl (lv_at hl 1 rfl) ?_
                              refine zget hx hb ht inlX10 hown hK hW 0 rfl rfl 75 (by decide) zm_215 rfl dX10_shift_112 ?_
                              refine lv_iload hx hb dX10_shift_115 (lv_at hl 0 rfl) ?_
                              refine lv_aload_n hx hb dX10_shift_117 rfl (lv_at hl 1 rfl) ?_
                              refine zget hx hb ht inlX10 hown hK hW 0 rfl rfl 74 (by decide) zm_214 rfl dX10_shift_118 ?_
                              refine lv_bipush (v := 60) hx hb dX10_shift_121 (by decide) ?_
                              refine lv_iload_n hx hb dX10_shift_123 rfl (lv_at hl 2 rfl) ?_
                              refine lv_imul hx hb dX10_shift_124 ?_
                              have q78_ : Int32.toInt (60 * n0) = 60 * Int32.toInt n0 := by have u0 := (show (60 : Int32).toInt = 60 from (by decide)); have u1 := b9_; have u2 := zmul 60 n0 (by rw [u0]; omega) (by rw [u0]; omega); rw [u0] at u2; omega
                              have b77_ : 0 ≤ Int32.toInt (60 * n0) ∧ Int32.toInt (60 * n0) ≤ 300 := by have u0 := (show (60 : Int32).toInt = 60 from (by decide)); have u1 := b9_; omega
                              refine lv_iload_n hx hb dX10_shift_125 rfl (lv_at hl 3 rfl) ?_
                              refine lv_iadd hx hb dX10_shift_126 ?_
                              have q80_ : Int32.toInt ((60 * n0) + n1) = Int32.toInt (60 * n0) + Int32.toInt n1 := by have u0 := b77_; have u1 := b45_; have u2 := zadd (60 * n0) n1 (by omega) (by omega); omega
                              have b79_ : 0 ≤ Int32.toInt ((60 * n0) + n1) ∧ Int32.toInt ((60 * n0) + n1) ≤ 360 := by have u0 := b77_; have u1 := b45_; omega
                              refine lv_iload hx hb dX10_shift_127 (lv_at hl 0 rfl) ?_
                              refine lv_iadd hx hb dX10_shift_129 ?_
                              have q82_ : Int32.toInt (((60 * n0) + n1) + x54_) = Int32.toInt ((60 * n0) + n1) + Int32.toInt x54_ := by have u0 := b79_; have u1 := bx54_; have u2 := zadd ((60 * n0) + n1) x54_ (by omega) (by omega); omega
                              have b81_ : 0 ≤ Int32.toInt (((60 * n0) + n1) + x54_) ∧ Int32.toInt (((60 * n0) + n1) + x54_) ≤ 420 := by have u0 := b79_; have u1 := bx54_; omega
                              refine zlald (v := (f_item (Int32.toNatClampNeg (((60 * n0) + n1) + x54_)))) hx hb hK hW 3 rfl (vp_in_iff.mpr (by omega)) rfl dX10_shift_130 ?_
                              refine zlastN (ws' := fun g83_ => [(a_this, .inr (9, [w_windows, w_minutes, w_wet, w_comes, w_side, w_herFloor, w_herRoom, w_kind, w_v, w_floor, w_room, w_takes, w_rows, w_isShut, w_houses, w_the, w_fed, w_at, w_digits, w_text, w_clauses, w_word, w_number, w_from, w_to, w_sign, w_waits, w_signs, w_waiting, w_open, w_letters, w_pile, w_since, w_rain, w_shutAt, w_ways, w_path, w_rounds, w_round, w_bestPath, w_seen, w_seenWho, w_seenHarm, w_books, w_bookWho, w_bookWhen, w_hasImage, w_imageThe, w_imageWindows, w_imageMinutes, w_imageWet, w_imageComes, w_imageSide, w_imageFloor, w_imageRoom, w_imageRounds, w_imageSeen, w_imageBooks, w_imageKind, w_imageV, w_imageFloors, w_imageRooms, w_imageTakes, w_imageRows, w_imageRound, w_imageWho, w_imageHarm, w_imageBookWho, w_imageWhen, w_imageShut, w_ran, w_bodies, .ref a_sort, .ref a_length, .ref a_item, .ref a_aside])), (a_sort, .inl (y 0, 6, .inl f_sort)), (a_length, .inl (y 0, 6, .inl f_length)), (a_item, .inl (y 1, 360, .inr (.inl f_item))), (a_aside, .inl (y 1, 60, .inr (.inl g83_)))]) hx hb hK hS hW 4 rfl (vp_in_iff.mpr (by omega)) (fun _ => rfl) dX10_shift_131 (fun g83_ H locs eg83_ hW hS => ?_)
                              refine lv_iinc (k := 0) (v := (x54_ + 1)) (lv' := [(6, .int (x54_ + 1)), (0, .ref a_this), (1, .int n0), (2, .int n1), (3, .int n2), (4, .int n3), (5, .int n4)]) hx hb dX10_shift_132 hl rfl (by rfl) (by decide) rfl (fun ls hl => ?_)
                              have q85_ : Int32.toInt (x54_ + 1) = Int32.toInt x54_ + 1 := by have u0 := bx54_; have u1 := (show (1 : Int32).toInt = 1 from (by decide)); have u2 := zadd x54_ 1 (by omega) (by omega); omega
                              have b84_ : 1 ≤ Int32.toInt (x54_ + 1) ∧ Int32.toInt (x54_ + 1) ≤ 61 := by have u0 := bx54_; have u1 := (show (1 : Int32).toInt = 1 from (by decide)); omega
                              refine lv_goto (tgt := 104) hx hb dX10_shift_135 (by decide) ?_
                              exact ih _ _ _ _ _ ⟨(by omega), by have u0 := q85_; omega, hW, hS, (lv_sub hl [0, 1, 2, 3, 4, 5, 6] rfl)⟩
                        · have d86_ : Int32.toInt n3 > Int32.toInt ((f_length (Int32.toNatClampNeg n2)) - n4) := by have u0 := (not_congr (zi_le _ _)).mp c50_; omega
                          refine lv_bipush (v := (-13)) hx hb dX10_shift_98 (by decide) ?_
                          exact zret_i (v := (-13)) hx hb hr hlocks hS (f_item, f_aside) ⟨(by decide), trivial⟩ hW (Nat.le_of_ble_eq_true rfl) (Nat.le_of_ble_eq_true rfl) dX10_shift_100
              · have d87_ : Int32.toInt (f_sort (Int32.toNatClampNeg n0)) ≠ Int32.toInt (f_sort (Int32.toNatClampNeg n2)) := by have u0 := (not_congr (zi_eq _ _)).mp c28_; omega
                refine lv_bipush (v := (-12)) hx hb dX10_shift_54 (by decide) ?_
                exact zret_i (v := (-12)) hx hb hr hlocks hS (f_item, f_aside) ⟨(by decide), trivial⟩ hW (Nat.le_of_ble_eq_true rfl) (Nat.le_of_ble_eq_true rfl) dX10_shift_56
            · have b88_ : (-1) ≤ Int32.toInt (f_sort (Int32.toNatClampNeg n2)) ∧ Int32.toInt (f_sort (Int32.toNatClampNeg n2)) ≤ (-1) := (by have u0 := b25_; have u1 := (not_congr (zi_le _ _)).mp c26_; have u2 : (0 : Int32).toInt = 0 := (by decide); omega)
              refine lv_bipush (v := (-11)) hx hb dX10_shift_36 (by decide) ?_
              exact zret_i (v := (-11)) hx hb hr hlocks hS (f_item, f_aside) ⟨(by decide), trivial⟩ hW (Nat.le_of_ble_eq_true rfl) (Nat.le_of_ble_eq_true rfl) dX10_shift_38
