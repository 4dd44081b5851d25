theorem dX10_holds_0 : decode cX10_holds 0 = .ok (.iconst 0, 1) := by decide +kernel
theorem dX10_holds_1 : decode cX10_holds 1 = .ok (.istore_n 3, 1) := by decide +kernel
theorem dX10_holds_10 : decode cX10_holds 10 = .ok (.iload 4, 2) := by decide +kernel
theorem dX10_holds_101 : decode cX10_holds 101 = .ok (.iload_n 3, 1) := by decide +kernel
theorem dX10_holds_102 : decode cX10_holds 102 = .ok (.baload, 1) := by decide +kernel
theorem dX10_holds_103 : decode cX10_holds 103 = .ok (.ifCond .eq 7, 3) := by decide +kernel
theorem dX10_holds_106 : decode cX10_holds 106 = .ok (.iconst 1, 1) := by decide +kernel
theorem dX10_holds_107 : decode cX10_holds 107 = .ok (.goto 32, 3) := by decide +kernel
theorem dX10_holds_110 : decode cX10_holds 110 = .ok (.iconst 0, 1) := by decide +kernel
theorem dX10_holds_111 : decode cX10_holds 111 = .ok (.goto 28, 3) := by decide +kernel
theorem dX10_holds_114 : decode cX10_holds 114 = .ok (.aload_n 0, 1) := by decide +kernel
theorem dX10_holds_115 : decode cX10_holds 115 = .ok (.getfield 105, 3) := by decide +kernel
theorem dX10_holds_118 : decode cX10_holds 118 = .ok (.iload_n 3, 1) := by decide +kernel
theorem dX10_holds_119 : decode cX10_holds 119 = .ok (.iconst 1, 1) := by decide +kernel
theorem dX10_holds_12 : decode cX10_holds 12 = .ok (.aload_n 0, 1) := by decide +kernel
theorem dX10_holds_120 : decode cX10_holds 120 = .ok (.isub, 1) := by decide +kernel
theorem dX10_holds_121 : decode cX10_holds 121 = .ok (.baload, 1) := by decide +kernel
theorem dX10_holds_122 : decode cX10_holds 122 = .ok (.ifCond .ne 12, 3) := by decide +kernel
theorem dX10_holds_125 : decode cX10_holds 125 = .ok (.aload_n 0, 1) := by decide +kernel
theorem dX10_holds_126 : decode cX10_holds 126 = .ok (.getfield 105, 3) := by decide +kernel
theorem dX10_holds_129 : decode cX10_holds 129 = .ok (.iload_n 3, 1) := by decide +kernel
theorem dX10_holds_13 : decode cX10_holds 13 = .ok (.getfield 84, 3) := by decide +kernel
theorem dX10_holds_130 : decode cX10_holds 130 = .ok (.baload, 1) := by decide +kernel
theorem dX10_holds_131 : decode cX10_holds 131 = .ok (.ifCond .eq 7, 3) := by decide +kernel
theorem dX10_holds_134 : decode cX10_holds 134 = .ok (.iconst 1, 1) := by decide +kernel
theorem dX10_holds_135 : decode cX10_holds 135 = .ok (.goto 4, 3) := by decide +kernel
theorem dX10_holds_138 : decode cX10_holds 138 = .ok (.iconst 0, 1) := by decide +kernel
theorem dX10_holds_139 : decode cX10_holds 139 = .ok (.bastore, 1) := by decide +kernel
theorem dX10_holds_140 : decode cX10_holds 140 = .ok (.goto 97, 3) := by decide +kernel
theorem dX10_holds_143 : decode cX10_holds 143 = .ok (.aload_n 0, 1) := by decide +kernel
theorem dX10_holds_144 : decode cX10_holds 144 = .ok (.iload 5, 2) := by decide +kernel
theorem dX10_holds_146 : decode cX10_holds 146 = .ok (.sipush 1000, 3) := by decide +kernel
theorem dX10_holds_149 : decode cX10_holds 149 = .ok (.idiv, 1) := by decide +kernel
theorem dX10_holds_150 : decode cX10_holds 150 = .ok (.iload_n 2, 1) := by decide +kernel
theorem dX10_holds_151 : decode cX10_holds 151 = .ok (.invokevirtual 305, 3) := by decide +kernel
theorem dX10_holds_154 : decode cX10_holds 154 = .ok (.istore 6, 2) := by decide +kernel
theorem dX10_holds_156 : decode cX10_holds 156 = .ok (.iload 5, 2) := by decide +kernel
theorem dX10_holds_158 : decode cX10_holds 158 = .ok (.bipush 100, 2) := by decide +kernel
theorem dX10_holds_16 : decode cX10_holds 16 = .ok (.iload_n 1, 1) := by decide +kernel
theorem dX10_holds_160 : decode cX10_holds 160 = .ok (.idiv, 1) := by decide +kernel
theorem dX10_holds_161 : decode cX10_holds 161 = .ok (.bipush 10, 2) := by decide +kernel
theorem dX10_holds_163 : decode cX10_holds 163 = .ok (.irem, 1) := by decide +kernel
theorem dX10_holds_164 : decode cX10_holds 164 = .ok (.istore 7, 2) := by decide +kernel
theorem dX10_holds_166 : decode cX10_holds 166 = .ok (.aload_n 0, 1) := by decide +kernel
theorem dX10_holds_167 : decode cX10_holds 167 = .ok (.getfield 105, 3) := by decide +kernel
theorem dX10_holds_17 : decode cX10_holds 17 = .ok (.iaload, 1) := by decide +kernel
theorem dX10_holds_170 : decode cX10_holds 170 = .ok (.iload_n 3, 1) := by decide +kernel
theorem dX10_holds_171 : decode cX10_holds 171 = .ok (.iload 7, 2) := by decide +kernel
theorem dX10_holds_173 : decode cX10_holds 173 = .ok (.ifCond .ne 21, 3) := by decide +kernel
theorem dX10_holds_176 : decode cX10_holds 176 = .ok (.iload 6, 2) := by decide +kernel
theorem dX10_holds_178 : decode cX10_holds 178 = .ok (.iload 5, 2) := by decide +kernel
theorem dX10_holds_18 : decode cX10_holds 18 = .ok (.if_icmp .ge 225, 3) := by decide +kernel
theorem dX10_holds_180 : decode cX10_holds 180 = .ok (.bipush 100, 2) := by decide +kernel
theorem dX10_holds_182 : decode cX10_holds 182 = .ok (.irem, 1) := by decide +kernel
theorem dX10_holds_183 : decode cX10_holds 183 = .ok (.if_icmp .ge 7, 3) := by decide +kernel
theorem dX10_holds_186 : decode cX10_holds 186 = .ok (.iconst 1, 1) := by decide +kernel
theorem dX10_holds_187 : decode cX10_holds 187 = .ok (.goto 46, 3) := by decide +kernel
theorem dX10_holds_190 : decode cX10_holds 190 = .ok (.iconst 0, 1) := by decide +kernel
theorem dX10_holds_191 : decode cX10_holds 191 = .ok (.goto 42, 3) := by decide +kernel
theorem dX10_holds_194 : decode cX10_holds 194 = .ok (.iload 7, 2) := by decide +kernel
theorem dX10_holds_196 : decode cX10_holds 196 = .ok (.iconst 1, 1) := by decide +kernel
theorem dX10_holds_197 : decode cX10_holds 197 = .ok (.if_icmp .ne 21, 3) := by decide +kernel
theorem dX10_holds_2 : decode cX10_holds 2 = .ok (.aload_n 0, 1) := by decide +kernel
theorem dX10_holds_200 : decode cX10_holds 200 = .ok (.iload 6, 2) := by decide +kernel
theorem dX10_holds_202 : decode cX10_holds 202 = .ok (.iload 5, 2) := by decide +kernel
theorem dX10_holds_204 : decode cX10_holds 204 = .ok (.bipush 100, 2) := by decide +kernel
theorem dX10_holds_206 : decode cX10_holds 206 = .ok (.irem, 1) := by decide +kernel
theorem dX10_holds_207 : decode cX10_holds 207 = .ok (.if_icmp .ne 7, 3) := by decide +kernel
theorem dX10_holds_21 : decode cX10_holds 21 = .ok (.aload_n 0, 1) := by decide +kernel
theorem dX10_holds_210 : decode cX10_holds 210 = .ok (.iconst 1, 1) := by decide +kernel
theorem dX10_holds_211 : decode cX10_holds 211 = .ok (.goto 22, 3) := by decide +kernel
theorem dX10_holds_214 : decode cX10_holds 214 = .ok (.iconst 0, 1) := by decide +kernel
theorem dX10_holds_215 : decode cX10_holds 215 = .ok (.goto 18, 3) := by decide +kernel
theorem dX10_holds_218 : decode cX10_holds 218 = .ok (.iload 6, 2) := by decide +kernel
theorem dX10_holds_22 : decode cX10_holds 22 = .ok (.getfield 87, 3) := by decide +kernel
theorem dX10_holds_220 : decode cX10_holds 220 = .ok (.iload 5, 2) := by decide +kernel
theorem dX10_holds_222 : decode cX10_holds 222 = .ok (.bipush 100, 2) := by decide +kernel
theorem dX10_holds_224 : decode cX10_holds 224 = .ok (.irem, 1) := by decide +kernel
theorem dX10_holds_225 : decode cX10_holds 225 = .ok (.if_icmp .le 7, 3) := by decide +kernel
theorem dX10_holds_228 : decode cX10_holds 228 = .ok (.iconst 1, 1) := by decide +kernel
theorem dX10_holds_229 : decode cX10_holds 229 = .ok (.goto 4, 3) := by decide +kernel
theorem dX10_holds_232 : decode cX10_holds 232 = .ok (.iconst 0, 1) := by decide +kernel
theorem dX10_holds_233 : decode cX10_holds 233 = .ok (.bastore, 1) := by decide +kernel
theorem dX10_holds_234 : decode cX10_holds 234 = .ok (.iinc 3 1, 3) := by decide +kernel
theorem dX10_holds_237 : decode cX10_holds 237 = .ok (.iinc 4 1, 3) := by decide +kernel
theorem dX10_holds_240 : decode cX10_holds 240 = .ok (.goto (-230), 3) := by decide +kernel
theorem dX10_holds_243 : decode cX10_holds 243 = .ok (.aload_n 0, 1) := by decide +kernel
theorem dX10_holds_244 : decode cX10_holds 244 = .ok (.getfield 105, 3) := by decide +kernel
theorem dX10_holds_247 : decode cX10_holds 247 = .ok (.iconst 0, 1) := by decide +kernel
theorem dX10_holds_248 : decode cX10_holds 248 = .ok (.baload, 1) := by decide +kernel
theorem dX10_holds_249 : decode cX10_holds 249 = .ok (.ireturn, 1) := by decide +kernel
theorem dX10_holds_25 : decode cX10_holds 25 = .ok (.iload 4, 2) := by decide +kernel
theorem dX10_holds_27 : decode cX10_holds 27 = .ok (.iaload, 1) := by decide +kernel
theorem dX10_holds_28 : decode cX10_holds 28 = .ok (.istore 5, 2) := by decide +kernel
theorem dX10_holds_3 : decode cX10_holds 3 = .ok (.getfield 81, 3) := by decide +kernel
theorem dX10_holds_30 : decode cX10_holds 30 = .ok (.iload 5, 2) := by decide +kernel
theorem dX10_holds_32 : decode cX10_holds 32 = .ok (.bipush (-33), 2) := by decide +kernel
theorem dX10_holds_34 : decode cX10_holds 34 = .ok (.if_icmp .ne 30, 3) := by decide +kernel
theorem dX10_holds_37 : decode cX10_holds 37 = .ok (.aload_n 0, 1) := by decide +kernel
theorem dX10_holds_38 : decode cX10_holds 38 = .ok (.getfield 105, 3) := by decide +kernel
theorem dX10_holds_41 : decode cX10_holds 41 = .ok (.iload_n 3, 1) := by decide +kernel
theorem dX10_holds_42 : decode cX10_holds 42 = .ok (.iconst 1, 1) := by decide +kernel
theorem dX10_holds_43 : decode cX10_holds 43 = .ok (.isub, 1) := by decide +kernel
theorem dX10_holds_44 : decode cX10_holds 44 = .ok (.aload_n 0, 1) := by decide +kernel
theorem dX10_holds_45 : decode cX10_holds 45 = .ok (.getfield 105, 3) := by decide +kernel
theorem dX10_holds_48 : decode cX10_holds 48 = .ok (.iload_n 3, 1) := by decide +kernel
theorem dX10_holds_49 : decode cX10_holds 49 = .ok (.iconst 1, 1) := by decide +kernel
theorem dX10_holds_50 : decode cX10_holds 50 = .ok (.isub, 1) := by decide +kernel
theorem dX10_holds_51 : decode cX10_holds 51 = .ok (.baload, 1) := by decide +kernel
theorem dX10_holds_52 : decode cX10_holds 52 = .ok (.ifCond .ne 7, 3) := by decide +kernel
theorem dX10_holds_55 : decode cX10_holds 55 = .ok (.iconst 1, 1) := by decide +kernel
theorem dX10_holds_56 : decode cX10_holds 56 = .ok (.goto 4, 3) := by decide +kernel
theorem dX10_holds_59 : decode cX10_holds 59 = .ok (.iconst 0, 1) := by decide +kernel
theorem dX10_holds_6 : decode cX10_holds 6 = .ok (.iload_n 1, 1) := by decide +kernel
theorem dX10_holds_60 : decode cX10_holds 60 = .ok (.bastore, 1) := by decide +kernel
theorem dX10_holds_61 : decode cX10_holds 61 = .ok (.goto 176, 3) := by decide +kernel
theorem dX10_holds_64 : decode cX10_holds 64 = .ok (.iload 5, 2) := by decide +kernel
theorem dX10_holds_66 : decode cX10_holds 66 = .ok (.ifCond .ge 77, 3) := by decide +kernel
theorem dX10_holds_69 : decode cX10_holds 69 = .ok (.iinc 3 (-1), 3) := by decide +kernel
theorem dX10_holds_7 : decode cX10_holds 7 = .ok (.iaload, 1) := by decide +kernel
theorem dX10_holds_72 : decode cX10_holds 72 = .ok (.aload_n 0, 1) := by decide +kernel
theorem dX10_holds_73 : decode cX10_holds 73 = .ok (.getfield 105, 3) := by decide +kernel
theorem dX10_holds_76 : decode cX10_holds 76 = .ok (.iload_n 3, 1) := by decide +kernel
theorem dX10_holds_77 : decode cX10_holds 77 = .ok (.iconst 1, 1) := by decide +kernel
theorem dX10_holds_78 : decode cX10_holds 78 = .ok (.isub, 1) := by decide +kernel
theorem dX10_holds_79 : decode cX10_holds 79 = .ok (.iload 5, 2) := by decide +kernel
theorem dX10_holds_8 : decode cX10_holds 8 = .ok (.istore 4, 2) := by decide +kernel
theorem dX10_holds_81 : decode cX10_holds 81 = .ok (.bipush (-38), 2) := by decide +kernel
theorem dX10_holds_83 : decode cX10_holds 83 = .ok (.if_icmp .ne 31, 3) := by decide +kernel
theorem dX10_holds_86 : decode cX10_holds 86 = .ok (.aload_n 0, 1) := by decide +kernel
theorem dX10_holds_87 : decode cX10_holds 87 = .ok (.getfield 105, 3) := by decide +kernel
theorem dX10_holds_90 : decode cX10_holds 90 = .ok (.iload_n 3, 1) := by decide +kernel
theorem dX10_holds_91 : decode cX10_holds 91 = .ok (.iconst 1, 1) := by decide +kernel
theorem dX10_holds_92 : decode cX10_holds 92 = .ok (.isub, 1) := by decide +kernel
theorem dX10_holds_93 : decode cX10_holds 93 = .ok (.baload, 1) := by decide +kernel
theorem dX10_holds_94 : decode cX10_holds 94 = .ok (.ifCond .eq 16, 3) := by decide +kernel
theorem dX10_holds_97 : decode cX10_holds 97 = .ok (.aload_n 0, 1) := by decide +kernel
theorem dX10_holds_98 : decode cX10_holds 98 = .ok (.getfield 105, 3) := by decide +kernel
set_option maxHeartbeats 8000000 in
set_option maxRecDepth 100000 in
theorem zd_X10_holds_x_x (l : Launch) (D : va_G) (y : Nat → ClassId) (a_this : Nat) (a_kind : Nat) (a_floor : Nat) (a_room : Nat) (a_from : Nat) (a_to : Nat) (a_sign : Nat) (a_pile : Nat) (w_windows : Value) (w_minutes : Value) (w_wet : Value) (w_comes : Value) (p_side : Int32) (w_herFloor : Value) (w_herRoom : Value) (w_v : Value) (w_takes : Value) (w_rows : Value) (w_isShut : Value) (w_houses : Value) (w_the : Value) (w_fed : Value) (w_at : Value) (w_digits : Value) (w_text : Value) (w_clauses : Value) (w_word : Value) (w_number : Value) (w_waits : Value) (w_signs : Value) (w_waiting : Value) (w_open : Value) (w_letters : Value) (p_since : Int32) (w_rain : Value) (w_shutAt : Value) (w_ways : Value) (w_path : Value) (w_rounds : Value) (w_round : Value) (w_bestPath : Value) (w_seen : Value) (w_seenWho : Value) (w_seenHarm : Value) (w_books : Value) (w_bookWho : Value) (w_bookWhen : Value) (w_hasImage : Value) (w_imageThe : Value) (w_imageWindows : Value) (w_imageMinutes : Value) (w_imageWet : Value) (w_imageComes : Value) (w_imageSide : Value) (w_imageFloor : Value) (w_imageRoom : Value) (w_imageRounds : Value) (w_imageSeen : Value) (w_imageBooks : Value) (w_imageKind : Value) (w_imageV : Value) (w_imageFloors : Value) (w_imageRooms : Value) (w_imageTakes : Value) (w_imageRows : Value) (w_imageRound : Value) (w_imageWho : Value) (w_imageHarm : Value) (w_imageBookWho : Value) (w_imageWhen : Value) (w_imageShut : Value) (w_ran : Value) (w_bodies : Value) (w_sort : Value) (w_length : Value) (w_item : Value) (w_aside : Value) (f_kind : Nat → Int32) (f_floor : Nat → Int32) (f_room : Nat → Int32) (f_from : Nat → Int32) (f_to : Nat → Int32) (f_sign : Nat → Int32) (f_pile : Nat → Int32) (n0 : Int32) (n1 : Int32) (hp_side : 0 ≤ Int32.toInt p_side ∧ Int32.toInt p_side ≤ 4) (hp_since : 0 ≤ Int32.toInt p_since ∧ Int32.toInt p_since ≤ 99) (hf_kind : ∀ j_, 0 ≤ Int32.toInt (f_kind j_) ∧ Int32.toInt (f_kind j_) ≤ 6) (hf_floor : ∀ j_, 0 ≤ Int32.toInt (f_floor j_) ∧ Int32.toInt (f_floor j_) ≤ 3) (hf_room : ∀ j_, 0 ≤ Int32.toInt (f_room j_) ∧ Int32.toInt (f_room j_) ≤ 4) (hf_from : ∀ j_, 0 ≤ Int32.toInt (f_from j_) ∧ Int32.toInt (f_from j_) ≤ 600) (hf_to : ∀ j_, 0 ≤ Int32.toInt (f_to j_) ∧ Int32.toInt (f_to j_) ≤ 600) (hf_pile : ∀ j_, 0 ≤ Int32.toInt (f_pile j_) ∧ Int32.toInt (f_pile j_) ≤ 1) (hn0 : 0 ≤ Int32.toInt n0 ∧ Int32.toInt n0 ≤ 59) (hn1 : 0 ≤ Int32.toInt n1 ∧ Int32.toInt n1 ≤ 6) (hz : zcl f_sign f_from f_to (Int32.toNatClampNeg n0)) : zM l D y yX10_holds (Cond.code yX10_holds cX10_holds 8 (some .boolean) :: zT) { frames := 1, cells := 0, slots := 0, locals := 22 } [.ref a_this, .int n0, .int n1] [(a_this, .inr (9, [w_windows, w_minutes, w_wet, w_comes, .int p_side, w_herFloor, w_herRoom, .ref a_kind, w_v, .ref a_floor, .ref a_room, w_takes, w_rows, w_isShut, w_houses, w_the, w_fed, w_at, w_digits, w_text, w_clauses, w_word, w_number, .ref a_from, .ref a_to, .ref a_sign, w_waits, w_signs, w_waiting, w_open, w_letters, .ref a_pile, .int p_since, w_rain, w_shutAt, w_ways, w_path, w_rounds, w_round, w_bestPath, w_seen, w_seenWho, w_seenHarm, w_books, w_bookWho, w_bookWhen, w_hasImage, w_imageThe, w_imageWindows, w_imageMinutes, w_imageWet, w_imageComes, w_imageSide, w_imageFloor, w_imageRoom, w_imageRounds, w_imageSeen, w_imageBooks, w_imageKind, w_imageV, w_imageFloors, w_imageRooms, w_imageTakes, w_imageRows, w_imageRound, w_imageWho, w_imageHarm, w_imageBookWho, w_imageWhen, w_imageShut, w_ran, w_bodies, w_sort, w_length, w_item, w_aside])), (a_kind, .inl (y 0, 7, .inl f_kind)), (a_floor, .inl (y 0, 7, .inl f_floor)), (a_room, .inl (y 0, 7, .inl f_room)), (a_from, .inl (y 0, 60, .inl f_from)), (a_to, .inl (y 0, 60, .inl f_to)), (a_sign, .inl (y 0, 600, .inl f_sign)), (a_pile, .inl (y 2, 100, .inl f_pile))] (zQi (S := (Nat → Int32)) D (fun r_ g_pile_ => (0 ≤ Int32.toInt r_ ∧ Int32.toInt r_ ≤ 1) ∧ (∀ j_, 0 ≤ Int32.toInt (g_pile_ j_) ∧ Int32.toInt (g_pile_ j_) ≤ 1) ∧ True) (fun g_pile_ => [(a_this, .inr (9, [w_windows, w_minutes, w_wet, w_comes, .int p_side, w_herFloor, w_herRoom, .ref a_kind, w_v, .ref a_floor, .ref a_room, w_takes, w_rows, w_isShut, w_houses, w_the, w_fed, w_at, w_digits, w_text, w_clauses, w_word, w_number, .ref a_from, .ref a_to, .ref a_sign, w_waits, w_signs, w_waiting, w_open, w_letters, .ref a_pile, .int p_since, w_rain, w_shutAt, w_ways, w_path, w_rounds, w_round, w_bestPath, w_seen, w_seenWho, w_seenHarm, w_books, w_bookWho, w_bookWhen, w_hasImage, w_imageThe, w_imageWindows, w_imageMinutes, w_imageWet, w_imageComes, w_imageSide, w_imageFloor, w_imageRoom, w_imageRounds, w_imageSeen, w_imageBooks, w_imageKind, w_imageV, w_imageFloors, w_imageRooms, w_imageTakes, w_imageRows, w_imageRound, w_imageWho, w_imageHarm, w_imageBookWho, w_imageWhen, w_imageShut, w_ran, w_bodies, w_sort, w_length, w_item, w_aside])), (a_kind, .inl (y 0, 7, .inl f_kind)), (a_floor, .inl (y 0, 7, .inl f_floor)), (a_room, .inl (y 0, 7, .inl f_room)), (a_from, .inl (y 0, 60, .inl f_from)), (a_to, .inl (y 0, 60, .inl f_to)), (a_sign, .inl (y 0, 600, .inl f_sign)), (a_pile, .inl (y 2, 100, .inl g_pile_))])) := by
  refine zent (cc := cX10_holds) (maxL := 8) (ret := (some .boolean)) (by decide) (Nat.le_of_ble_eq_true rfl) ?_
  intro p e s m below meth c A H locs ls hx hb hml hr ht hown hlocks hin hA hK hE hS hW hl
  replace hown : s.vm.findClass RX10 = some m.cls := hown
  replace hW : zPD D A [(a_this, .inr (9, [w_windows, w_minutes, w_wet, w_comes, .int p_side, w_herFloor, w_herRoom, .ref a_kind, w_v, .ref a_floor, .ref a_room, w_takes, w_rows, w_isShut, w_houses, w_the, w_fed, w_at, w_digits, w_text, w_clauses, w_word, w_number, .ref a_from, .ref a_to, .ref a_sign, w_waits, w_signs, w_waiting, w_open, w_letters, .ref a_pile, .int p_since, w_rain, w_shutAt, w_ways, w_path, w_rounds, w_round, w_bestPath, w_seen, w_seenWho, w_seenHarm, w_books, w_bookWho, w_bookWhen, w_hasImage, w_imageThe, w_imageWindows, w_imageMinutes, w_imageWet, w_imageComes, w_imageSide, w_imageFloor, w_imageRoom, w_imageRounds, w_imageSeen, w_imageBooks, w_imageKind, w_imageV, w_imageFloors, w_imageRooms, w_imageTakes, w_imageRows, w_imageRound, w_imageWho, w_imageHarm, w_imageBookWho, w_imageWhen, w_imageShut, w_ran, w_bodies, w_sort, w_length, w_item, w_aside])), (a_kind, .inl (y 0, 7, .inl f_kind)), (a_floor, .inl (y 0, 7, .inl f_floor)), (a_room, .inl (y 0, 7, .inl f_room)), (a_from, .inl (y 0, 60, .inl f_from)), (a_to, .inl (y 0, 60, .inl f_to)), (a_sign, .inl (y 0, 600, .inl f_sign)), (a_pile, .inl (y 2, 100, .inl f_pile))] H := hW
  replace hl : lv_has ls 8 [(0, .ref a_this), (1, .int n0), (2, .int n1)] := hl
  obtain ⟨A_, B_, hA_, hB_, hAB_, hB6_, hB1_, hok_⟩ := hz
  refine lv_iconst (v := 0) hx hb dX10_holds_0 (by decide) ?_
  refine lv_istore_n (lv' := [(3, .int 0), (0, .ref a_this), (1, .int n0), (2, .int n1)]) hx hb dX10_holds_1 rfl hl (by decide) rfl (fun ls hl => ?_)
  refine lv_aload_n hx hb dX10_holds_2 rfl (lv_at hl 1 rfl) ?_
  refine zget hx hb ht inlX10 hown hK hW 0 rfl rfl 23 (by decide) zm_163 rfl dX10_holds_3 ?_
  refine lv_iload_n hx hb dX10_holds_6 rfl (lv_at hl 2 rfl) ?_
  have b1_ : 0 ≤ Int32.toInt (f_from (Int32.toNatClampNeg n0)) ∧ Int32.toInt (f_from (Int32.toNatClampNeg n0)) ≤ 600 := hf_from (Int32.toNatClampNeg n0)
  refine ziald (v := (f_from (Int32.toNatClampNeg n0))) hx hb hK hW 4 rfl (zr_in hn0 (by decide) (by decide)) rfl dX10_holds_7 ?_
  refine lv_istore (lv' := [(4, .int (f_from (Int32.toNatClampNeg n0))), (3, .int 0), (0, .ref a_this), (1, .int n0), (2, .int n1)]) hx hb dX10_holds_8 hl (by decide) rfl (fun ls hl => ?_)
  obtain ⟨x2_, ex2_⟩ : ∃ z : Int32, z = (f_from (Int32.toNatClampNeg n0)) := ⟨_, rfl⟩
  obtain ⟨x3_, ex3_⟩ : ∃ z : Int32, z = 0 := ⟨_, rfl⟩
  obtain ⟨g4_, eg4_⟩ : ∃ z : Nat → Int32, z = f_pile := ⟨_, rfl⟩
  obtain ⟨n10_, hI10_⟩ : ∃ n : Nat, (0 ≤ Int32.toInt x2_ ∧ Int32.toInt x2_ ≤ 600) ∧ (0 ≤ Int32.toInt x3_ ∧ Int32.toInt x3_ ≤ 100) ∧ (∀ j_, 0 ≤ Int32.toInt (g4_ j_) ∧ Int32.toInt (g4_ j_) ≤ 1) ∧ (∃ j_ : Nat, Int32.toInt x2_ = (A_ : Int) + j_ ∧ A_ + j_ ≤ B_ ∧ Int32.toInt x3_ = zdep f_sign A_ j_) ∧ (600 - Int32.toInt x2_ < (n : Int)) ∧ zPD D A [(a_this, .inr (9, [w_windows, w_minutes, w_wet, w_comes, .int p_side, w_herFloor, w_herRoom, .ref a_kind, w_v, .ref a_floor, .ref a_room, w_takes, w_rows, w_isShut, w_houses, w_the, w_fed, w_at, w_digits, w_text, w_clauses, w_word, w_number, .ref a_from, .ref a_to, .ref a_sign, w_waits, w_signs, w_waiting, w_open, w_letters, .ref a_pile, .int p_since, w_rain, w_shutAt, w_ways, w_path, w_rounds, w_round, w_bestPath, w_seen, w_seenWho, w_seenHarm, w_books, w_bookWho, w_bookWhen, w_hasImage, w_imageThe, w_imageWindows, w_imageMinutes, w_imageWet, w_imageComes, w_imageSide, w_imageFloor, w_imageRoom, w_imageRounds, w_imageSeen, w_imageBooks, w_imageKind, w_imageV, w_imageFloors, w_imageRooms, w_imageTakes, w_imageRows, w_imageRound, w_imageWho, w_imageHarm, w_imageBookWho, w_imageWhen, w_imageShut, w_ran, w_bodies, w_sort, w_length, w_item, w_aside])), (a_kind, .inl (y 0, 7, .inl f_kind)), (a_floor, .inl (y 0, 7, .inl f_floor)), (a_room, .inl (y 0, 7, .inl f_room)), (a_from, .inl (y 0, 60, .inl f_from)), (a_to, .inl (y 0, 60, .inl f_to)), (a_sign, .inl (y 0, 600, .inl f_sign)), (a_pile, .inl (y 2, 100, .inl g4_))] H ∧ va_S A s.heap H locs ∧ lv_has ls 8 [(4, .int x2_), (3, .int x3_), (0, .ref a_this), (1, .int n0), (2, .int n1)] := ⟨(600 - Int32.toInt x2_ + 1).toNat, by (try rw [ex2_]); exact (zr_wide b1_ (by decide) (by decide)), by (try rw [ex3_]); exact (by decide), by (try rw [eg4_]); exact hf_pile, by (try rw [ex2_]); (try rw [ex3_]); (try rw [eg4_]); exact ⟨0, by rw [hA_]; simp, by omega, (show Int32.toInt 0 = (0 : Int) from (by decide))⟩, by omega, by (try rw [ex2_]); (try rw [ex3_]); (try rw [eg4_]); exact hW, hS, by (try rw [ex2_]); (try rw [ex3_]); (try rw [eg4_]); exact hl⟩
  clear hW hS hl ex2_ ex3_ eg4_
  induction n10_ generalizing x2_ x3_ g4_ H locs ls with
  | zero => obtain ⟨bx2_, bx3_, bg4_, hX10_, hn, -⟩ := hI10_; exact absurd hn (by omega)
  | succ n ih =>
    obtain ⟨bx2_, bx3_, bg4_, hX10_, hn, hW, hS, hl⟩ := hI10_
    obtain ⟨j_, k1_, k2_, k3_⟩ := hX10_
    have ek_ : Int32.toNatClampNeg x2_ = A_ + j_ := znat (by omega)
    have ok_ : zhide (j_ < B_ - A_ → (Int32.toInt (f_sign (Int32.toNatClampNeg x2_)) = -33 → 1 ≤ zdep f_sign A_ j_) ∧ (¬ Int32.toInt (f_sign (Int32.toNatClampNeg x2_)) = -33 → Int32.toInt (f_sign (Int32.toNatClampNeg x2_)) < 0 → 2 ≤ zdep f_sign A_ j_)) := by unfold zhide; intro h; rw [ek_]; exact hok_ j_ h
    have ds_ : zhide ((Int32.toInt (f_sign (Int32.toNatClampNeg x2_)) = -33 → zdep f_sign A_ (j_ + 1) = zdep f_sign A_ j_) ∧ (¬ Int32.toInt (f_sign (Int32.toNatClampNeg x2_)) = -33 → Int32.toInt (f_sign (Int32.toNatClampNeg x2_)) < 0 → zdep f_sign A_ (j_ + 1) = zdep f_sign A_ j_ - 1) ∧ (¬ Int32.toInt (f_sign (Int32.toNatClampNeg x2_)) = -33 → ¬ Int32.toInt (f_sign (Int32.toNatClampNeg x2_)) < 0 → zdep f_sign A_ (j_ + 1) = zdep f_sign A_ j_ + 1)) := by rw [ek_]; exact zdep_s f_sign A_ j_
    have dl_ := zdep_le f_sign A_ j_
    refine lv_iload hx hb dX10_holds_10 (lv_at hl 0 rfl) ?_
    refine lv_aload_n hx hb dX10_holds_12 rfl (lv_at hl 2 rfl) ?_
    refine zget hx hb ht inlX10 hown hK hW 0 rfl rfl 24 (by decide) zm_164 rfl dX10_holds_13 ?_
    refine lv_iload_n hx hb dX10_holds_16 rfl (lv_at hl 3 rfl) ?_
    have b5_ : 0 ≤ Int32.toInt (f_to (Int32.toNatClampNeg n0)) ∧ Int32.toInt (f_to (Int32.toNatClampNeg n0)) ≤ 600 := hf_to (Int32.toNatClampNeg n0)
    refine ziald (v := (f_to (Int32.toNatClampNeg n0))) hx hb hK hW 5 rfl (zr_in hn0 (by decide) (by decide)) rfl dX10_holds_17 ?_
    refine lv_icmp_ge (tgt := 243) hx hb dX10_holds_18 (by decide) (fun c6_ => ?_) (fun c6_ => ?_)
    · have d7_ : Int32.toInt (f_to (Int32.toNatClampNeg n0)) ≤ Int32.toInt x2_ := (zi_le _ _).mp c6_
      refine lv_aload_n hx hb dX10_holds_243 rfl (lv_at hl 2 rfl) ?_
      refine zget hx hb ht inlX10 hown hK hW 0 rfl rfl 31 (by decide) zm_171 rfl dX10_holds_244 ?_
      refine lv_iconst (v := 0) hx hb dX10_holds_247 (by decide) ?_
      have b8_ : 0 ≤ Int32.toInt (g4_ (Int32.toNatClampNeg 0)) ∧ Int32.toInt (g4_ (Int32.toNatClampNeg 0)) ≤ 1 := bg4_ (Int32.toNatClampNeg 0)
      refine zzald (v := (g4_ (Int32.toNatClampNeg 0))) hx hb hK hW 7 rfl (by unfold vp_in; decide) rfl dX10_holds_248 ?_
      exact zret_z (v := (g4_ (Int32.toNatClampNeg 0))) hx hb hr hlocks hS g4_ (zn_bool (zr_wide b8_ (by decide) (by decide))) ⟨(zr_wide b8_ (by decide) (by decide)), bg4_, trivial⟩ hW (Nat.le_of_ble_eq_true rfl) (Nat.le_of_ble_eq_true rfl) dX10_holds_249
    · have b9_ : 1 ≤ Int32.toInt (f_to (Int32.toNatClampNeg n0)) ∧ Int32.toInt (f_to (Int32.toNatClampNeg n0)) ≤ 600 := zr_nle_l 1 c6_ b5_ bx2_ (by decide)
      have b10_ : 0 ≤ Int32.toInt x2_ ∧ Int32.toInt x2_ ≤ 599 := zr_nle_r 599 c6_ bx2_ b9_ (by decide)
      have d11_ : Int32.toInt (f_to (Int32.toNatClampNeg n0)) > Int32.toInt x2_ := Int.not_le.mp ((not_congr (zi_le _ _)).mp c6_)
      refine lv_aload_n hx hb dX10_holds_21 rfl (lv_at hl 2 rfl) ?_
      refine zget hx hb ht inlX10 hown hK hW 0 rfl rfl 25 (by decide) zm_165 rfl dX10_holds_22 ?_
      refine lv_iload hx hb dX10_holds_25 (lv_at hl 0 rfl) ?_
      refine ziald (v := (f_sign (Int32.toNatClampNeg x2_))) hx hb hK hW 6 rfl (zr_in b10_ (by decide) (by decide)) rfl dX10_holds_27 ?_
      refine lv_istore (lv' := [(5, .int (f_sign (Int32.toNatClampNeg x2_))), (4, .int x2_), (3, .int x3_), (0, .ref a_this), (1, .int n0), (2, .int n1)]) hx hb dX10_holds_28 hl (by decide) rfl (fun ls hl => ?_)
      refine lv_iload hx hb dX10_holds_30 (lv_at hl 0 rfl) ?_
      refine lv_bipush (v := (-33)) hx hb dX10_holds_32 (by decide) ?_
      refine lv_icmp_ne (tgt := 64) hx hb dX10_holds_34 (by decide) (fun c12_ => ?_) (fun c12_ => ?_)
      · have d13_ : Int32.toInt (f_sign (Int32.toNatClampNeg x2_)) ≠ (-33) := by have u0 := (not_congr (zi_eq _ _)).mp c12_; have u1 : ((-33) : Int32).toInt = -33 := (by decide); omega
        refine lv_iload hx hb dX10_holds_64 (lv_at hl 0 rfl) ?_
        refine lv_if_ge (tgt := 143) hx hb dX10_holds_66 (by decide) (fun c14_ => ?_) (fun c14_ => ?_)
        · have b15_ : 0 ≤ Int32.toInt (f_sign (Int32.toNatClampNeg x2_)) ∧ Int32.toInt (f_sign (Int32.toNatClampNeg x2_)) ≤ 2147483647 := zr_le_r 0 c14_ (zbnd (f_sign (Int32.toNatClampNeg x2_))) (show 0 ≤ Int32.toInt 0 ∧ Int32.toInt 0 ≤ 0 from (by decide)) (by decide)
          have b16_ : 0 ≤ Int32.toInt x3_ ∧ Int32.toInt x3_ ≤ 99 := by omega
          refine lv_aload_n hx hb dX10_holds_143 rfl (lv_at hl 3 rfl) ?_
          refine lv_iload hx hb dX10_holds_144 (lv_at hl 0 rfl) ?_
          refine lv_sipush (v := 1000) hx hb dX10_holds_146 (by decide) ?_
          refine lv_idiv hx hb dX10_holds_149 (by decide) ?_
          have q18_ : Int32.toInt ((f_sign (Int32.toNatClampNeg x2_)) / 1000) = Int32.toInt (f_sign (Int32.toNatClampNeg x2_)) / 1000 := by have u0 := b15_; have u := zdiv_p (f_sign (Int32.toNatClampNeg x2_)) 1000 (by omega) (by decide) (by decide); have e0 : nI 1000 = (1000 : Int32) := rfl; rw [e0] at u; omega
          have b17_ : 0 ≤ Int32.toInt ((f_sign (Int32.toNatClampNeg x2_)) / 1000) ∧ Int32.toInt ((f_sign (Int32.toNatClampNeg x2_)) / 1000) ≤ 2147483 := by have u0 := b15_; have u := zdiv_p (f_sign (Int32.toNatClampNeg x2_)) 1000 (by omega) (by decide) (by decide); have e0 : nI 1000 = (1000 : Int32) := rfl; rw [e0] at u; omega
          refine lv_iload_n hx hb dX10_holds_150 rfl (lv_at hl 5 rfl) ?_
          refine zgo_i (wr := [(a_from, .inl (y 0, 60, .inl f_from)), (a_to, .inl (y 0, 60, .inl f_to)), (a_sign, .inl (y 0, 600, .inl f_sign)), (a_pile, .inl (y 2, 100, .inl g4_))]) (zrunV (As := [.int ((f_sign (Int32.toNatClampNeg x2_)) / 1000), .int n1]) (rest := []) ⟨hx, hb, hml, hown, ht⟩ (zd_X10_factOf_x_x l D y a_this a_kind a_floor a_room w_windows w_minutes w_wet w_comes p_side w_herFloor w_herRoom w_v w_takes w_rows w_isShut w_houses w_the w_fed w_at w_digits w_text w_clauses w_word w_number (.ref a_from) (.ref a_to) (.ref a_sign) w_waits w_signs w_waiting w_open w_letters (.ref a_pile) p_since w_rain w_shutAt w_ways w_path w_rounds w_round w_bestPath w_seen w_seenWho w_seenHarm w_books w_bookWho w_bookWhen w_hasImage w_imageThe w_imageWindows w_imageMinutes w_imageWet w_imageComes w_imageSide w_imageFloor w_imageRoom w_imageRounds w_imageSeen w_imageBooks w_imageKind w_imageV w_imageFloors w_imageRooms w_imageTakes w_imageRows w_imageRound w_imageWho w_imageHarm w_imageBookWho w_imageWhen w_imageShut w_ran w_bodies w_sort w_length w_item w_aside f_kind f_floor f_room ((f_sign (Int32.toNatClampNeg x2_)) / 1000) n1 (zr_wide hp_side (by decide) (by decide)) (zr_wide hp_since (by decide) (by decide)) hf_kind hf_floor hf_room (zr_wide hn1 (by decide) (by decide))) (cwV 2 ht (zgV zm_393 zm_394 zm_395 zm_5 zm_396) rfl rfl rfl (by decide +kernel) ⟨(Nat.le_of_ble_eq_true rfl), (Nat.le_of_ble_eq_true rfl)⟩) hK hE hS hA hW [0, 1, 2, 3] (by decide) rfl 0 rfl rfl rfl rfl hl.1 rfl (Nat.le_of_ble_eq_true rfl) dX10_holds_151 (Nat.le_of_ble_eq_true rfl) (Nat.le_of_ble_eq_true rfl)) hS hA hW [0, 1, 2, 3] [4, 5, 6, 7] rfl rfl (by decide) (by decide) (fun r19_ u H locs hw hW hS => ?_)
          replace hW : zPD D A [(a_this, .inr (9, [w_windows, w_minutes, w_wet, w_comes, .int p_side, w_herFloor, w_herRoom, .ref a_kind, w_v, .ref a_floor, .ref a_room, w_takes, w_rows, w_isShut, w_houses, w_the, w_fed, w_at, w_digits, w_text, w_clauses, w_word, w_number, .ref a_from, .ref a_to, .ref a_sign, w_waits, w_signs, w_waiting, w_open, w_letters, .ref a_pile, .int p_since, w_rain, w_shutAt, w_ways, w_path, w_rounds, w_round, w_bestPath, w_seen, w_seenWho, w_seenHarm, w_books, w_bookWho, w_bookWhen, w_hasImage, w_imageThe, w_imageWindows, w_imageMinutes, w_imageWet, w_imageComes, w_imageSide, w_imageFloor, w_imageRoom, w_imageRounds, w_imageSeen, w_imageBooks, w_imageKind, w_imageV, w_imageFloors, w_imageRooms, w_imageTakes, w_imageRows, w_imageRound, w_imageWho, w_imageHarm, w_imageBookWho, w_imageWhen, w_imageShut, w_ran, w_bodies, w_sort, w_length, w_item, w_aside])), (a_kind, .inl (y 0, 7, .inl f_kind)), (a_floor, .inl (y 0, 7, .inl f_floor)), (a_room, .inl (y 0, 7, .inl f_room)), (a_from, .inl (y 0, 60, .inl f_from)), (a_to, .inl (y 0, 60, .inl f_to)), (a_sign, .inl (y 0, 600, .inl f_sign)), (a_pile, .inl (y 2, 100, .inl g4_))] H := hW.sub [4, 5, 6, 7, 0, 1, 2, 3] (by decide) rfl
          replace hw : (r19_ = (if ((f_sign (Int32.toNatClampNeg x2_)) / 1000) = 0 then n1 else (if ((f_sign (Int32.toNatClampNeg x2_)) / 1000) = 1 then (f_kind (Int32.toNatClampNeg n1)) else (if ((f_sign (Int32.toNatClampNeg x2_)) / 1000) = 2 then (f_floor (Int32.toNatClampNeg n1)) else (if ((f_sign (Int32.toNatClampNeg x2_)) / 1000) = 3 then (f_room (Int32.toNatClampNeg n1)) else (if ((f_sign (Int32.toNatClampNeg x2_)) / 1000) = 4 then p_side else p_since)))))) ∧ True := hw
          obtain ⟨hw, -⟩ := hw
          by_cases c20_ : ((f_sign (Int32.toNatClampNeg x2_)) / 1000) = 0
          · have b21_ : 0 ≤ Int32.toInt ((f_sign (Int32.toNatClampNeg x2_)) / 1000) ∧ Int32.toInt ((f_sign (Int32.toNatClampNeg x2_)) / 1000) ≤ 0 := zr_eq_l c20_ (show 0 ≤ Int32.toInt 0 ∧ Int32.toInt 0 ≤ 0 from (by decide))
            rw [if_pos c20_] at hw
            subst hw
            refine lv_istore (lv' := [(6, .int n1), (5, .int (f_sign (Int32.toNatClampNeg x2_))), (4, .int x2_), (3, .int x3_), (0, .ref a_this), (1, .int n0), (2, .int n1)]) hx hb dX10_holds_154 hl (by decide) rfl (fun ls hl => ?_)
            refine lv_iload hx hb dX10_holds_156 (lv_at hl 1 rfl) ?_
            refine lv_bipush (v := 100) hx hb dX10_holds_158 (by decide) ?_
            refine lv_idiv hx hb dX10_holds_160 (by decide) ?_
            have q23_ : Int32.toInt ((f_sign (Int32.toNatClampNeg x2_)) / 100) = Int32.toInt (f_sign (Int32.toNatClampNeg x2_)) / 100 := by have u0 := b15_; have u := zdiv_p (f_sign (Int32.toNatClampNeg x2_)) 100 (by omega) (by decide) (by decide); have e0 : nI 100 = (100 : Int32) := rfl; rw [e0] at u; omega
            have b22_ : 0 ≤ Int32.toInt ((f_sign (Int32.toNatClampNeg x2_)) / 100) ∧ Int32.toInt ((f_sign (Int32.toNatClampNeg x2_)) / 100) ≤ 21474836 := by have u0 := b15_; have u := zdiv_p (f_sign (Int32.toNatClampNeg x2_)) 100 (by omega) (by decide) (by decide); have e0 : nI 100 = (100 : Int32) := rfl; rw [e0] at u; omega
            refine lv_bipush (v := 10) hx hb dX10_holds_161 (by decide) ?_
            refine lv_irem hx hb dX10_holds_163 (by decide) ?_
            have b24_ : 0 ≤ Int32.toInt (((f_sign (Int32.toNatClampNeg x2_)) / 100) - ((f_sign (Int32.toNatClampNeg x2_)) / 100) / 10 * 10) ∧ Int32.toInt (((f_sign (Int32.toNatClampNeg x2_)) / 100) - ((f_sign (Int32.toNatClampNeg x2_)) / 100) / 10 * 10) ≤ 9 := by have u0 := b22_; have u := zrem_p ((f_sign (Int32.toNatClampNeg x2_)) / 100) 10 (by omega) (by decide) (by decide); have e0 : nI 10 = (10 : Int32) := rfl; rw [e0] at u; omega
            refine lv_istore (lv' := [(7, .int (((f_sign (Int32.toNatClampNeg x2_)) / 100) - ((f_sign (Int32.toNatClampNeg x2_)) / 100) / 10 * 10)), (6, .int n1), (5, .int (f_sign (Int32.toNatClampNeg x2_))), (4, .int x2_), (3, .int x3_), (0, .ref a_this), (1, .int n0), (2, .int n1)]) hx hb dX10_holds_164 hl (by decide) rfl (fun ls hl => ?_)
            refine lv_aload_n hx hb dX10_holds_166 rfl (lv_at hl 5 rfl) ?_
            refine zget hx hb ht inlX10 hown hK hW 0 rfl rfl 31 (by decide) zm_171 rfl dX10_holds_167 ?_
            refine lv_iload_n hx hb dX10_holds_170 rfl (lv_at hl 4 rfl) ?_
            refine lv_iload hx hb dX10_holds_171 (lv_at hl 0 rfl) ?_
            refine lv_if_ne (tgt := 194) hx hb dX10_holds_173 (by decide) (fun c25_ => ?_) (fun c25_ => ?_)
            · have b26_ : 1 ≤ Int32.toInt (((f_sign (Int32.toNatClampNeg x2_)) / 100) - ((f_sign (Int32.toNatClampNeg x2_)) / 100) / 10 * 10) ∧ Int32.toInt (((f_sign (Int32.toNatClampNeg x2_)) / 100) - ((f_sign (Int32.toNatClampNeg x2_)) / 100) / 10 * 10) ≤ 9 := (by have u0 := b24_; have u1 := (not_congr (zi_eq _ _)).mp c25_; have u2 := (show 0 ≤ Int32.toInt 0 ∧ Int32.toInt 0 ≤ 0 from (by decide)); omega)
              refine lv_iload hx hb dX10_holds_194 (lv_at hl 0 rfl) ?_
              refine lv_iconst (v := 1) hx hb dX10_holds_196 (by decide) ?_
              refine lv_icmp_ne (tgt := 218) hx hb dX10_holds_197 (by decide) (fun c27_ => ?_) (fun c27_ => ?_)
              · sorry
              · sorry
            · have b65_ : 0 ≤ Int32.toInt (((f_sign (Int32.toNatClampNeg x2_)) / 100) - ((f_sign (Int32.toNatClampNeg x2_)) / 100) / 10 * 10) ∧ Int32.toInt (((f_sign (Int32.toNatClampNeg x2_)) / 100) - ((f_sign (Int32.toNatClampNeg x2_)) / 100) / 10 * 10) ≤ 0 := zr_eq_l c25_ (show 0 ≤ Int32.toInt 0 ∧ Int32.toInt 0 ≤ 0 from (by decide))
              refine lv_iload hx hb dX10_holds_176 (lv_at hl 1 rfl) ?_
              refine lv_iload hx hb dX10_holds_178 (lv_at hl 2 rfl) ?_
              refine lv_bipush (v := 100) hx hb dX10_holds_180 (by decide) ?_
              refine lv_irem hx hb dX10_holds_182 (by decide) ?_
              have b66_ : 0 ≤ Int32.toInt ((f_sign (Int32.toNatClampNeg x2_)) - (f_sign (Int32.toNatClampNeg x2_)) / 100 * 100) ∧ Int32.toInt ((f_sign (Int32.toNatClampNeg x2_)) - (f_sign (Int32.toNatClampNeg x2_)) / 100 * 100) ≤ 99 := by have u0 := b15_; have u := zrem_p (f_sign (Int32.toNatClampNeg x2_)) 100 (by omega) (by decide) (by decide); have e0 : nI 100 = (100 : Int32) := rfl; rw [e0] at u; omega
              refine lv_icmp_ge (tgt := 190) hx hb dX10_holds_183 (by decide) (fun c67_ => ?_) (fun c67_ => ?_)
              · sorry
              · sorry
          · have b84_ : 1 ≤ Int32.toInt ((f_sign (Int32.toNatClampNeg x2_)) / 1000) ∧ Int32.toInt ((f_sign (Int32.toNatClampNeg x2_)) / 1000) ≤ 2147483 := (by have u0 := b17_; have u1 := (not_congr (zi_eq _ _)).mp c20_; have u2 := (show 0 ≤ Int32.toInt 0 ∧ Int32.toInt 0 ≤ 0 from (by decide)); omega)
            rw [if_neg c20_] at hw
            by_cases c85_ : ((f_sign (Int32.toNatClampNeg x2_)) / 1000) = 1
            · have b86_ : 1 ≤ Int32.toInt ((f_sign (Int32.toNatClampNeg x2_)) / 1000) ∧ Int32.toInt ((f_sign (Int32.toNatClampNeg x2_)) / 1000) ≤ 1 := zr_eq_l c85_ (show 1 ≤ Int32.toInt 1 ∧ Int32.toInt 1 ≤ 1 from (by decide))
              rw [if_pos c85_] at hw
              subst hw
              refine lv_istore (lv' := [(6, .int (f_kind (Int32.toNatClampNeg n1))), (5, .int (f_sign (Int32.toNatClampNeg x2_))), (4, .int x2_), (3, .int x3_), (0, .ref a_this), (1, .int n0), (2, .int n1)]) hx hb dX10_holds_154 hl (by decide) rfl (fun ls hl => ?_)
              refine lv_iload hx hb dX10_holds_156 (lv_at hl 1 rfl) ?_
              refine lv_bipush (v := 100) hx hb dX10_holds_158 (by decide) ?_
              refine lv_idiv hx hb dX10_holds_160 (by decide) ?_
              have q88_ : Int32.toInt ((f_sign (Int32.toNatClampNeg x2_)) / 100) = Int32.toInt (f_sign (Int32.toNatClampNeg x2_)) / 100 := by have u0 := b15_; have u := zdiv_p (f_sign (Int32.toNatClampNeg x2_)) 100 (by omega) (by decide) (by decide); have e0 : nI 100 = (100 : Int32) := rfl; rw [e0] at u; omega
              have b87_ : 0 ≤ Int32.toInt ((f_sign (Int32.toNatClampNeg x2_)) / 100) ∧ Int32.toInt ((f_sign (Int32.toNatClampNeg x2_)) / 100) ≤ 21474836 := by have u0 := b15_; have u := zdiv_p (f_sign (Int32.toNatClampNeg x2_)) 100 (by omega) (by decide) (by decide); have e0 : nI 100 = (100 : Int32) := rfl; rw [e0] at u; omega
              refine lv_bipush (v := 10) hx hb dX10_holds_161 (by decide) ?_
              refine lv_irem hx hb dX10_holds_163 (by decide) ?_
              have b89_ : 0 ≤ Int32.toInt (((f_sign (Int32.toNatClampNeg x2_)) / 100) - ((f_sign (Int32.toNatClampNeg x2_)) / 100) / 10 * 10) ∧ Int32.toInt (((f_sign (Int32.toNatClampNeg x2_)) / 100) - ((f_sign (Int32.toNatClampNeg x2_)) / 100) / 10 * 10) ≤ 9 := by have u0 := b87_; have u := zrem_p ((f_sign (Int32.toNatClampNeg x2_)) / 100) 10 (by omega) (by decide) (by decide); have e0 : nI 10 = (10 : Int32) := rfl; rw [e0] at u; omega
              refine lv_istore (lv' := [(7, .int (((f_sign (Int32.toNatClampNeg x2_)) / 100) - ((f_sign (Int32.toNatClampNeg x2_)) / 100) / 10 * 10)), (6, .int (f_kind (Int32.toNatClampNeg n1))), (5, .int (f_sign (Int32.toNatClampNeg x2_))), (4, .int x2_), (3, .int x3_), (0, .ref a_this), (1, .int n0), (2, .int n1)]) hx hb dX10_holds_164 hl (by decide) rfl (fun ls hl => ?_)
              refine lv_aload_n hx hb dX10_holds_166 rfl (lv_at hl 5 rfl) ?_
              refine zget hx hb ht inlX10 hown hK hW 0 rfl rfl 31 (by decide) zm_171 rfl dX10_holds_167 ?_
              refine lv_iload_n hx hb dX10_holds_170 rfl (lv_at hl 4 rfl) ?_
              refine lv_iload hx hb dX10_holds_171 (lv_at hl 0 rfl) ?_
              refine lv_if_ne (tgt := 194) hx hb dX10_holds_173 (by decide) (fun c90_ => ?_) (fun c90_ => ?_)
              · sorry
              · sorry
            · have b149_ : 2 ≤ Int32.toInt ((f_sign (Int32.toNatClampNeg x2_)) / 1000) ∧ Int32.toInt ((f_sign (Int32.toNatClampNeg x2_)) / 1000) ≤ 2147483 := (by have u0 := b84_; have u1 := (not_congr (zi_eq _ _)).mp c85_; have u2 := (show 1 ≤ Int32.toInt 1 ∧ Int32.toInt 1 ≤ 1 from (by decide)); omega)
              rw [if_neg c85_] at hw
              by_cases c150_ : ((f_sign (Int32.toNatClampNeg x2_)) / 1000) = 2
              · sorry
              · sorry
        · have b406_ : (-2147483648) ≤ Int32.toInt (f_sign (Int32.toNatClampNeg x2_)) ∧ Int32.toInt (f_sign (Int32.toNatClampNeg x2_)) ≤ (-1) := zr_nle_r (-1) c14_ (zbnd (f_sign (Int32.toNatClampNeg x2_))) (show 0 ≤ Int32.toInt 0 ∧ Int32.toInt 0 ≤ 0 from (by decide)) (by decide)
          have b407_ : 2 ≤ Int32.toInt x3_ ∧ Int32.toInt x3_ ≤ 100 := by have o1 := zshow ok_; omega
          refine lv_iinc (k := 2) (v := (x3_ + (-1))) (lv' := [(3, .int (x3_ + (-1))), (5, .int (f_sign (Int32.toNatClampNeg x2_))), (4, .int x2_), (0, .ref a_this), (1, .int n0), (2, .int n1)]) hx hb dX10_holds_69 hl rfl (by rfl) (by decide) rfl (fun ls hl => ?_)
          obtain ⟨q409_, b408_⟩ : (Int32.toInt (x3_ + (-1)) = Int32.toInt x3_ + (-1)) ∧ (1 ≤ Int32.toInt (x3_ + (-1)) ∧ Int32.toInt (x3_ + (-1)) ≤ 99) := zadd_k x3_ (-1) (-1) 1 99 b407_ (by decide) (by decide) (by decide) (by decide) (by decide)
          refine lv_aload_n hx hb dX10_holds_72 rfl (lv_at hl 3 rfl) ?_
          refine zget hx hb ht inlX10 hown hK hW 0 rfl rfl 31 (by decide) zm_171 rfl dX10_holds_73 ?_
          refine lv_iload_n hx hb dX10_holds_76 rfl (lv_at hl 0 rfl) ?_
          refine lv_iconst (v := 1) hx hb dX10_holds_77 (by decide) ?_
          refine lv_isub hx hb dX10_holds_78 ?_
          obtain ⟨q411_, b410_⟩ : (Int32.toInt ((x3_ + (-1)) - 1) = Int32.toInt (x3_ + (-1)) - 1) ∧ (0 ≤ Int32.toInt ((x3_ + (-1)) - 1) ∧ Int32.toInt ((x3_ + (-1)) - 1) ≤ 98) := zsub_k (x3_ + (-1)) 1 1 0 98 b408_ (by decide) (by decide) (by decide) (by decide) (by decide)
          refine lv_iload hx hb dX10_holds_79 (lv_at hl 1 rfl) ?_
          refine lv_bipush (v := (-38)) hx hb dX10_holds_81 (by decide) ?_
          refine lv_icmp_ne (tgt := 114) hx hb dX10_holds_83 (by decide) (fun c412_ => ?_) (fun c412_ => ?_)
          · refine lv_aload_n hx hb dX10_holds_114 rfl (lv_at hl 3 rfl) ?_
            refine zget hx hb ht inlX10 hown hK hW 0 rfl rfl 31 (by decide) zm_171 rfl dX10_holds_115 ?_
            refine lv_iload_n hx hb dX10_holds_118 rfl (lv_at hl 0 rfl) ?_
            refine lv_iconst (v := 1) hx hb dX10_holds_119 (by decide) ?_
            refine lv_isub hx hb dX10_holds_120 ?_
            have b413_ : 0 ≤ Int32.toInt (g4_ (Int32.toNatClampNeg ((x3_ + (-1)) - 1))) ∧ Int32.toInt (g4_ (Int32.toNatClampNeg ((x3_ + (-1)) - 1))) ≤ 1 := bg4_ (Int32.toNatClampNeg ((x3_ + (-1)) - 1))
            refine zzald (v := (g4_ (Int32.toNatClampNeg ((x3_ + (-1)) - 1)))) hx hb hK hW 7 rfl (zr_in b410_ (by decide) (by decide)) rfl dX10_holds_121 ?_
            refine lv_if_ne (tgt := 134) hx hb dX10_holds_122 (by decide) (fun c414_ => ?_) (fun c414_ => ?_)
            · have b415_ : 1 ≤ Int32.toInt (g4_ (Int32.toNatClampNeg ((x3_ + (-1)) - 1))) ∧ Int32.toInt (g4_ (Int32.toNatClampNeg ((x3_ + (-1)) - 1))) ≤ 1 := (by have u0 := b413_; have u1 := (not_congr (zi_eq _ _)).mp c414_; have u2 := (show 0 ≤ Int32.toInt 0 ∧ Int32.toInt 0 ≤ 0 from (by decide)); omega)
              refine lv_iconst (v := 1) hx hb dX10_holds_134 (by decide) ?_
              refine lv_goto (tgt := 139) hx hb dX10_holds_135 (by decide) ?_
              refine zzastN (ws' := fun g416_ => [(a_this, .inr (9, [w_windows, w_minutes, w_wet, w_comes, .int p_side, w_herFloor, w_herRoom, .ref a_kind, w_v, .ref a_floor, .ref a_room, w_takes, w_rows, w_isShut, w_houses, w_the, w_fed, w_at, w_digits, w_text, w_clauses, w_word, w_number, .ref a_from, .ref a_to, .ref a_sign, w_waits, w_signs, w_waiting, w_open, w_letters, .ref a_pile, .int p_since, w_rain, w_shutAt, w_ways, w_path, w_rounds, w_round, w_bestPath, w_seen, w_seenWho, w_seenHarm, w_books, w_bookWho, w_bookWhen, w_hasImage, w_imageThe, w_imageWindows, w_imageMinutes, w_imageWet, w_imageComes, w_imageSide, w_imageFloor, w_imageRoom, w_imageRounds, w_imageSeen, w_imageBooks, w_imageKind, w_imageV, w_imageFloors, w_imageRooms, w_imageTakes, w_imageRows, w_imageRound, w_imageWho, w_imageHarm, w_imageBookWho, w_imageWhen, w_imageShut, w_ran, w_bodies, w_sort, w_length, w_item, w_aside])), (a_kind, .inl (y 0, 7, .inl f_kind)), (a_floor, .inl (y 0, 7, .inl f_floor)), (a_room, .inl (y 0, 7, .inl f_room)), (a_from, .inl (y 0, 60, .inl f_from)), (a_to, .inl (y 0, 60, .inl f_to)), (a_sign, .inl (y 0, 600, .inl f_sign)), (a_pile, .inl (y 2, 100, .inl g416_))]) hx hb hK hS hW 7 rfl (zr_in b410_ (by decide) (by decide)) (fun _ => rfl) dX10_holds_139 (fun g416_ H locs eg416_ hW hS => ?_)
              have b417_ : ∀ j_, 0 ≤ Int32.toInt (g416_ j_) ∧ Int32.toInt (g416_ j_) ≤ 1 := zall_updZ eg416_ bg4_
              refine lv_goto (tgt := 237) hx hb dX10_holds_140 (by decide) ?_
              refine lv_iinc (k := 2) (v := (x2_ + 1)) (lv' := [(4, .int (x2_ + 1)), (3, .int (x3_ + (-1))), (5, .int (f_sign (Int32.toNatClampNeg x2_))), (0, .ref a_this), (1, .int n0), (2, .int n1)]) hx hb dX10_holds_237 hl rfl (by rfl) (by decide) rfl (fun ls hl => ?_)
              obtain ⟨q419_, b418_⟩ : (Int32.toInt (x2_ + 1) = Int32.toInt x2_ + 1) ∧ (1 ≤ Int32.toInt (x2_ + 1) ∧ Int32.toInt (x2_ + 1) ≤ 600) := zadd_k x2_ 1 1 1 600 b10_ (by decide) (by decide) (by decide) (by decide) (by decide)
              refine lv_goto (tgt := 10) hx hb dX10_holds_240 (by decide) ?_
              exact ih _ _ _ _ _ _ ⟨(zr_wide b418_ (by decide) (by decide)), (zr_wide b408_ (by decide) (by decide)), b417_, by exact ⟨j_ + 1, by omega, by omega, by have o1 := zshow ds_; omega⟩, by have u0 := q419_; omega, hW, hS, (lv_sub hl [0, 1, 3, 4, 5] rfl)⟩
            · have b420_ : 0 ≤ Int32.toInt (g4_ (Int32.toNatClampNeg ((x3_ + (-1)) - 1))) ∧ Int32.toInt (g4_ (Int32.toNatClampNeg ((x3_ + (-1)) - 1))) ≤ 0 := zr_eq_l c414_ (show 0 ≤ Int32.toInt 0 ∧ Int32.toInt 0 ≤ 0 from (by decide))
              refine lv_aload_n hx hb dX10_holds_125 rfl (lv_at hl 3 rfl) ?_
              refine zget hx hb ht inlX10 hown hK hW 0 rfl rfl 31 (by decide) zm_171 rfl dX10_holds_126 ?_
              refine lv_iload_n hx hb dX10_holds_129 rfl (lv_at hl 0 rfl) ?_
              have b421_ : 0 ≤ Int32.toInt (g4_ (Int32.toNatClampNeg (x3_ + (-1)))) ∧ Int32.toInt (g4_ (Int32.toNatClampNeg (x3_ + (-1)))) ≤ 1 := bg4_ (Int32.toNatClampNeg (x3_ + (-1)))
              refine zzald (v := (g4_ (Int32.toNatClampNeg (x3_ + (-1))))) hx hb hK hW 7 rfl (zr_in b408_ (by decide) (by decide)) rfl dX10_holds_130 ?_
              refine lv_if_eq (tgt := 138) hx hb dX10_holds_131 (by decide) (fun c422_ => ?_) (fun c422_ => ?_)
              · sorry
              · sorry
          · have b433_ : (-38) ≤ Int32.toInt (f_sign (Int32.toNatClampNeg x2_)) ∧ Int32.toInt (f_sign (Int32.toNatClampNeg x2_)) ≤ (-38) := zr_eq_l c412_ (show (-38) ≤ Int32.toInt (-38) ∧ Int32.toInt (-38) ≤ (-38) from (by decide))
            refine lv_aload_n hx hb dX10_holds_86 rfl (lv_at hl 3 rfl) ?_
            refine zget hx hb ht inlX10 hown hK hW 0 rfl rfl 31 (by decide) zm_171 rfl dX10_holds_87 ?_
            refine lv_iload_n hx hb dX10_holds_90 rfl (lv_at hl 0 rfl) ?_
            refine lv_iconst (v := 1) hx hb dX10_holds_91 (by decide) ?_
            refine lv_isub hx hb dX10_holds_92 ?_
            have b434_ : 0 ≤ Int32.toInt (g4_ (Int32.toNatClampNeg ((x3_ + (-1)) - 1))) ∧ Int32.toInt (g4_ (Int32.toNatClampNeg ((x3_ + (-1)) - 1))) ≤ 1 := bg4_ (Int32.toNatClampNeg ((x3_ + (-1)) - 1))
            refine zzald (v := (g4_ (Int32.toNatClampNeg ((x3_ + (-1)) - 1)))) hx hb hK hW 7 rfl (zr_in b410_ (by decide) (by decide)) rfl dX10_holds_93 ?_
            refine lv_if_eq (tgt := 110) hx hb dX10_holds_94 (by decide) (fun c435_ => ?_) (fun c435_ => ?_)
            · have b436_ : 0 ≤ Int32.toInt (g4_ (Int32.toNatClampNeg ((x3_ + (-1)) - 1))) ∧ Int32.toInt (g4_ (Int32.toNatClampNeg ((x3_ + (-1)) - 1))) ≤ 0 := zr_eq_l c435_ (show 0 ≤ Int32.toInt 0 ∧ Int32.toInt 0 ≤ 0 from (by decide))
              refine lv_iconst (v := 0) hx hb dX10_holds_110 (by decide) ?_
              refine lv_goto (tgt := 139) hx hb dX10_holds_111 (by decide) ?_
              refine zzastN (ws' := fun g437_ => [(a_this, .inr (9, [w_windows, w_minutes, w_wet, w_comes, .int p_side, w_herFloor, w_herRoom, .ref a_kind, w_v, .ref a_floor, .ref a_room, w_takes, w_rows, w_isShut, w_houses, w_the, w_fed, w_at, w_digits, w_text, w_clauses, w_word, w_number, .ref a_from, .ref a_to, .ref a_sign, w_waits, w_signs, w_waiting, w_open, w_letters, .ref a_pile, .int p_since, w_rain, w_shutAt, w_ways, w_path, w_rounds, w_round, w_bestPath, w_seen, w_seenWho, w_seenHarm, w_books, w_bookWho, w_bookWhen, w_hasImage, w_imageThe, w_imageWindows, w_imageMinutes, w_imageWet, w_imageComes, w_imageSide, w_imageFloor, w_imageRoom, w_imageRounds, w_imageSeen, w_imageBooks, w_imageKind, w_imageV, w_imageFloors, w_imageRooms, w_imageTakes, w_imageRows, w_imageRound, w_imageWho, w_imageHarm, w_imageBookWho, w_imageWhen, w_imageShut, w_ran, w_bodies, w_sort, w_length, w_item, w_aside])), (a_kind, .inl (y 0, 7, .inl f_kind)), (a_floor, .inl (y 0, 7, .inl f_floor)), (a_room, .inl (y 0, 7, .inl f_room)), (a_from, .inl (y 0, 60, .inl f_from)), (a_to, .inl (y 0, 60, .inl f_to)), (a_sign, .inl (y 0, 600, .inl f_sign)), (a_pile, .inl (y 2, 100, .inl g437_))]) hx hb hK hS hW 7 rfl (zr_in b410_ (by decide) (by decide)) (fun _ => rfl) dX10_holds_139 (fun g437_ H locs eg437_ hW hS => ?_)
              have b438_ : ∀ j_, 0 ≤ Int32.toInt (g437_ j_) ∧ Int32.toInt (g437_ j_) ≤ 1 := zall_updZ eg437_ bg4_
              refine lv_goto (tgt := 237) hx hb dX10_holds_140 (by decide) ?_
              refine lv_iinc (k := 2) (v := (x2_ + 1)) (lv' := [(4, .int (x2_ + 1)), (3, .int (x3_ + (-1))), (5, .int (f_sign (Int32.toNatClampNeg x2_))), (0, .ref a_this), (1, .int n0), (2, .int n1)]) hx hb dX10_holds_237 hl rfl (by rfl) (by decide) rfl (fun ls hl => ?_)
              obtain ⟨q440_, b439_⟩ : (Int32.toInt (x2_ + 1) = Int32.toInt x2_ + 1) ∧ (1 ≤ Int32.toInt (x2_ + 1) ∧ Int32.toInt (x2_ + 1) ≤ 600) := zadd_k x2_ 1 1 1 600 b10_ (by decide) (by decide) (by decide) (by decide) (by decide)
              refine lv_goto (tgt := 10) hx hb dX10_holds_240 (by decide) ?_
              exact ih _ _ _ _ _ _ ⟨(zr_wide b439_ (by decide) (by decide)), (zr_wide b408_ (by decide) (by decide)), b438_, by exact ⟨j_ + 1, by omega, by omega, by have o1 := zshow ds_; omega⟩, by have u0 := q440_; omega, hW, hS, (lv_sub hl [0, 1, 3, 4, 5] rfl)⟩
            · have b441_ : 1 ≤ Int32.toInt (g4_ (Int32.toNatClampNeg ((x3_ + (-1)) - 1))) ∧ Int32.toInt (g4_ (Int32.toNatClampNeg ((x3_ + (-1)) - 1))) ≤ 1 := (by have u0 := b434_; have u1 := (not_congr (zi_eq _ _)).mp c435_; have u2 := (show 0 ≤ Int32.toInt 0 ∧ Int32.toInt 0 ≤ 0 from (by decide)); omega)
              refine lv_aload_n hx hb dX10_holds_97 rfl (lv_at hl 3 rfl) ?_
              refine zget hx hb ht inlX10 hown hK hW 0 rfl rfl 31 (by decide) zm_171 rfl dX10_holds_98 ?_
              refine lv_iload_n hx hb dX10_holds_101 rfl (lv_at hl 0 rfl) ?_
              have b442_ : 0 ≤ Int32.toInt (g4_ (Int32.toNatClampNeg (x3_ + (-1)))) ∧ Int32.toInt (g4_ (Int32.toNatClampNeg (x3_ + (-1)))) ≤ 1 := bg4_ (Int32.toNatClampNeg (x3_ + (-1)))
              refine zzald (v := (g4_ (Int32.toNatClampNeg (x3_ + (-1))))) hx hb hK hW 7 rfl (zr_in b408_ (by decide) (by decide)) rfl dX10_holds_102 ?_
              refine lv_if_eq (tgt := 110) hx hb dX10_holds_103 (by decide) (fun c443_ => ?_) (fun c443_ => ?_)
              · sorry
              · sorry
      · have b454_ : (-33) ≤ Int32.toInt (f_sign (Int32.toNatClampNeg x2_)) ∧ Int32.toInt (f_sign (Int32.toNatClampNeg x2_)) ≤ (-33) := zr_eq_l c12_ (show (-33) ≤ Int32.toInt (-33) ∧ Int32.toInt (-33) ≤ (-33) from (by decide))
        have b455_ : 1 ≤ Int32.toInt x3_ ∧ Int32.toInt x3_ ≤ 100 := by have o1 := zshow ok_; omega
        refine lv_aload_n hx hb dX10_holds_37 rfl (lv_at hl 3 rfl) ?_
        refine zget hx hb ht inlX10 hown hK hW 0 rfl rfl 31 (by decide) zm_171 rfl dX10_holds_38 ?_
        refine lv_iload_n hx hb dX10_holds_41 rfl (lv_at hl 2 rfl) ?_
        refine lv_iconst (v := 1) hx hb dX10_holds_42 (by decide) ?_
        refine lv_isub hx hb dX10_holds_43 ?_
        obtain ⟨q457_, b456_⟩ : (Int32.toInt (x3_ - 1) = Int32.toInt x3_ - 1) ∧ (0 ≤ Int32.toInt (x3_ - 1) ∧ Int32.toInt (x3_ - 1) ≤ 99) := zsub_k x3_ 1 1 0 99 b455_ (by decide) (by decide) (by decide) (by decide) (by decide)
        refine lv_aload_n hx hb dX10_holds_44 rfl (lv_at hl 3 rfl) ?_
        refine zget hx hb ht inlX10 hown hK hW 0 rfl rfl 31 (by decide) zm_171 rfl dX10_holds_45 ?_
        refine lv_iload_n hx hb dX10_holds_48 rfl (lv_at hl 2 rfl) ?_
        refine lv_iconst (v := 1) hx hb dX10_holds_49 (by decide) ?_
        refine lv_isub hx hb dX10_holds_50 ?_
        have b458_ : 0 ≤ Int32.toInt (g4_ (Int32.toNatClampNeg (x3_ - 1))) ∧ Int32.toInt (g4_ (Int32.toNatClampNeg (x3_ - 1))) ≤ 1 := bg4_ (Int32.toNatClampNeg (x3_ - 1))
        refine zzald (v := (g4_ (Int32.toNatClampNeg (x3_ - 1)))) hx hb hK hW 7 rfl (zr_in b456_ (by decide) (by decide)) rfl dX10_holds_51 ?_
        refine lv_if_ne (tgt := 59) hx hb dX10_holds_52 (by decide) (fun c459_ => ?_) (fun c459_ => ?_)
        · have b460_ : 1 ≤ Int32.toInt (g4_ (Int32.toNatClampNeg (x3_ - 1))) ∧ Int32.toInt (g4_ (Int32.toNatClampNeg (x3_ - 1))) ≤ 1 := (by have u0 := b458_; have u1 := (not_congr (zi_eq _ _)).mp c459_; have u2 := (show 0 ≤ Int32.toInt 0 ∧ Int32.toInt 0 ≤ 0 from (by decide)); omega)
          refine lv_iconst (v := 0) hx hb dX10_holds_59 (by decide) ?_
          refine zzastN (ws' := fun g461_ => [(a_this, .inr (9, [w_windows, w_minutes, w_wet, w_comes, .int p_side, w_herFloor, w_herRoom, .ref a_kind, w_v, .ref a_floor, .ref a_room, w_takes, w_rows, w_isShut, w_houses, w_the, w_fed, w_at, w_digits, w_text, w_clauses, w_word, w_number, .ref a_from, .ref a_to, .ref a_sign, w_waits, w_signs, w_waiting, w_open, w_letters, .ref a_pile, .int p_since, w_rain, w_shutAt, w_ways, w_path, w_rounds, w_round, w_bestPath, w_seen, w_seenWho, w_seenHarm, w_books, w_bookWho, w_bookWhen, w_hasImage, w_imageThe, w_imageWindows, w_imageMinutes, w_imageWet, w_imageComes, w_imageSide, w_imageFloor, w_imageRoom, w_imageRounds, w_imageSeen, w_imageBooks, w_imageKind, w_imageV, w_imageFloors, w_imageRooms, w_imageTakes, w_imageRows, w_imageRound, w_imageWho, w_imageHarm, w_imageBookWho, w_imageWhen, w_imageShut, w_ran, w_bodies, w_sort, w_length, w_item, w_aside])), (a_kind, .inl (y 0, 7, .inl f_kind)), (a_floor, .inl (y 0, 7, .inl f_floor)), (a_room, .inl (y 0, 7, .inl f_room)), (a_from, .inl (y 0, 60, .inl f_from)), (a_to, .inl (y 0, 60, .inl f_to)), (a_sign, .inl (y 0, 600, .inl f_sign)), (a_pile, .inl (y 2, 100, .inl g461_))]) hx hb hK hS hW 7 rfl (zr_in b456_ (by decide) (by decide)) (fun _ => rfl) dX10_holds_60 (fun g461_ H locs eg461_ hW hS => ?_)
          have b462_ : ∀ j_, 0 ≤ Int32.toInt (g461_ j_) ∧ Int32.toInt (g461_ j_) ≤ 1 := zall_updZ eg461_ bg4_
          refine lv_goto (tgt := 237) hx hb dX10_holds_61 (by decide) ?_
          refine lv_iinc (k := 1) (v := (x2_ + 1)) (lv' := [(4, .int (x2_ + 1)), (5, .int (f_sign (Int32.toNatClampNeg x2_))), (3, .int x3_), (0, .ref a_this), (1, .int n0), (2, .int n1)]) hx hb dX10_holds_237 hl rfl (by rfl) (by decide) rfl (fun ls hl => ?_)
          obtain ⟨q464_, b463_⟩ : (Int32.toInt (x2_ + 1) = Int32.toInt x2_ + 1) ∧ (1 ≤ Int32.toInt (x2_ + 1) ∧ Int32.toInt (x2_ + 1) ≤ 600) := zadd_k x2_ 1 1 1 600 b10_ (by decide) (by decide) (by decide) (by decide) (by decide)
          refine lv_goto (tgt := 10) hx hb dX10_holds_240 (by decide) ?_
          exact ih _ _ _ _ _ _ ⟨(zr_wide b463_ (by decide) (by decide)), (zr_wide b455_ (by decide) (by decide)), b462_, by exact ⟨j_ + 1, by omega, by omega, by have o1 := zshow ds_; omega⟩, by have u0 := q464_; omega, hW, hS, (lv_sub hl [0, 2, 3, 4, 5] rfl)⟩
        · have b465_ : 0 ≤ Int32.toInt (g4_ (Int32.toNatClampNeg (x3_ - 1))) ∧ Int32.toInt (g4_ (Int32.toNatClampNeg (x3_ - 1))) ≤ 0 := zr_eq_l c459_ (show 0 ≤ Int32.toInt 0 ∧ Int32.toInt 0 ≤ 0 from (by decide))
          refine lv_iconst (v := 1) hx hb dX10_holds_55 (by decide) ?_
          refine lv_goto (tgt := 60) hx hb dX10_holds_56 (by decide) ?_
          refine zzastN (ws' := fun g466_ => [(a_this, .inr (9, [w_windows, w_minutes, w_wet, w_comes, .int p_side, w_herFloor, w_herRoom, .ref a_kind, w_v, .ref a_floor, .ref a_room, w_takes, w_rows, w_isShut, w_houses, w_the, w_fed, w_at, w_digits, w_text, w_clauses, w_word, w_number, .ref a_from, .ref a_to, .ref a_sign, w_waits, w_signs, w_waiting, w_open, w_letters, .ref a_pile, .int p_since, w_rain, w_shutAt, w_ways, w_path, w_rounds, w_round, w_bestPath, w_seen, w_seenWho, w_seenHarm, w_books, w_bookWho, w_bookWhen, w_hasImage, w_imageThe, w_imageWindows, w_imageMinutes, w_imageWet, w_imageComes, w_imageSide, w_imageFloor, w_imageRoom, w_imageRounds, w_imageSeen, w_imageBooks, w_imageKind, w_imageV, w_imageFloors, w_imageRooms, w_imageTakes, w_imageRows, w_imageRound, w_imageWho, w_imageHarm, w_imageBookWho, w_imageWhen, w_imageShut, w_ran, w_bodies, w_sort, w_length, w_item, w_aside])), (a_kind, .inl (y 0, 7, .inl f_kind)), (a_floor, .inl (y 0, 7, .inl f_floor)), (a_room, .inl (y 0, 7, .inl f_room)), (a_from, .inl (y 0, 60, .inl f_from)), (a_to, .inl (y 0, 60, .inl f_to)), (a_sign, .inl (y 0, 600, .inl f_sign)), (a_pile, .inl (y 2, 100, .inl g466_))]) hx hb hK hS hW 7 rfl (zr_in b456_ (by decide) (by decide)) (fun _ => rfl) dX10_holds_60 (fun g466_ H locs eg466_ hW hS => ?_)
          have b467_ : ∀ j_, 0 ≤ Int32.toInt (g466_ j_) ∧ Int32.toInt (g466_ j_) ≤ 1 := zall_updZ eg466_ bg4_
          refine lv_goto (tgt := 237) hx hb dX10_holds_61 (by decide) ?_
          refine lv_iinc (k := 1) (v := (x2_ + 1)) (lv' := [(4, .int (x2_ + 1)), (5, .int (f_sign (Int32.toNatClampNeg x2_))), (3, .int x3_), (0, .ref a_this), (1, .int n0), (2, .int n1)]) hx hb dX10_holds_237 hl rfl (by rfl) (by decide) rfl (fun ls hl => ?_)
          obtain ⟨q469_, b468_⟩ : (Int32.toInt (x2_ + 1) = Int32.toInt x2_ + 1) ∧ (1 ≤ Int32.toInt (x2_ + 1) ∧ Int32.toInt (x2_ + 1) ≤ 600) := zadd_k x2_ 1 1 1 600 b10_ (by decide) (by decide) (by decide) (by decide) (by decide)
          refine lv_goto (tgt := 10) hx hb dX10_holds_240 (by decide) ?_
          exact ih _ _ _ _ _ _ ⟨(zr_wide b468_ (by decide) (by decide)), (zr_wide b455_ (by decide) (by decide)), b467_, by exact ⟨j_ + 1, by omega, by omega, by have o1 := zshow ds_; omega⟩, by have u0 := q469_; omega, hW, hS, (lv_sub hl [0, 2, 3, 4, 5] rfl)⟩
