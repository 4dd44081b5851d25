/-! what the String constants answer: contracts of the JDK's own members -/
theorem dJ0_coder_7d493_0 : decode cJ0_coder_7d493 0 = .ok (.getstatic 38, 3) := by decide +kernel
theorem dJ0_coder_7d493_3 : decode cJ0_coder_7d493 3 = .ok (.ifCond .eq 10, 3) := by decide +kernel
theorem dJ0_coder_7d493_6 : decode cJ0_coder_7d493 6 = .ok (.aload_n 0, 1) := by decide +kernel
theorem dJ0_coder_7d493_7 : decode cJ0_coder_7d493 7 = .ok (.getfield 15, 3) := by decide +kernel
theorem dJ0_coder_7d493_10 : decode cJ0_coder_7d493 10 = .ok (.goto 4, 3) := by decide +kernel
theorem dJ0_coder_7d493_13 : decode cJ0_coder_7d493 13 = .ok (.iconst 1, 1) := by decide +kernel
theorem dJ0_coder_7d493_14 : decode cJ0_coder_7d493 14 = .ok (.ireturn, 1) := by decide +kernel
theorem dJ0_length_8abf5_0 : decode cJ0_length_8abf5 0 = .ok (.aload_n 0, 1) := by decide +kernel
theorem dJ0_length_8abf5_1 : decode cJ0_length_8abf5 1 = .ok (.getfield 9, 3) := by decide +kernel
theorem dJ0_length_8abf5_4 : decode cJ0_length_8abf5 4 = .ok (.arraylength, 1) := by decide +kernel
theorem dJ0_length_8abf5_5 : decode cJ0_length_8abf5 5 = .ok (.aload_n 0, 1) := by decide +kernel
theorem dJ0_length_8abf5_6 : decode cJ0_length_8abf5 6 = .ok (.invokevirtual 335, 3) := by decide +kernel
theorem dJ0_length_8abf5_9 : decode cJ0_length_8abf5 9 = .ok (.ishr, 1) := by decide +kernel
theorem dJ0_length_8abf5_10 : decode cJ0_length_8abf5 10 = .ok (.ireturn, 1) := by decide +kernel
theorem dJ0_isEmpty_aae02_0 : decode cJ0_isEmpty_aae02 0 = .ok (.aload_n 0, 1) := by decide +kernel
theorem dJ0_isEmpty_aae02_1 : decode cJ0_isEmpty_aae02 1 = .ok (.getfield 9, 3) := by decide +kernel
theorem dJ0_isEmpty_aae02_4 : decode cJ0_isEmpty_aae02 4 = .ok (.arraylength, 1) := by decide +kernel
theorem dJ0_isEmpty_aae02_5 : decode cJ0_isEmpty_aae02 5 = .ok (.ifCond .ne 7, 3) := by decide +kernel
theorem dJ0_isEmpty_aae02_8 : decode cJ0_isEmpty_aae02 8 = .ok (.iconst 1, 1) := by decide +kernel
theorem dJ0_isEmpty_aae02_9 : decode cJ0_isEmpty_aae02 9 = .ok (.goto 4, 3) := by decide +kernel
theorem dJ0_isEmpty_aae02_12 : decode cJ0_isEmpty_aae02 12 = .ok (.iconst 0, 1) := by decide +kernel
theorem dJ0_isEmpty_aae02_13 : decode cJ0_isEmpty_aae02 13 = .ok (.ireturn, 1) := by decide +kernel
theorem dJ0_isLatin1_aae02_0 : decode cJ0_isLatin1_aae02 0 = .ok (.getstatic 38, 3) := by decide +kernel
theorem dJ0_isLatin1_aae02_3 : decode cJ0_isLatin1_aae02 3 = .ok (.ifCond .eq 14, 3) := by decide +kernel
theorem dJ0_isLatin1_aae02_6 : decode cJ0_isLatin1_aae02 6 = .ok (.aload_n 0, 1) := by decide +kernel
theorem dJ0_isLatin1_aae02_7 : decode cJ0_isLatin1_aae02 7 = .ok (.getfield 15, 3) := by decide +kernel
theorem dJ0_isLatin1_aae02_10 : decode cJ0_isLatin1_aae02 10 = .ok (.ifCond .ne 7, 3) := by decide +kernel
theorem dJ0_isLatin1_aae02_13 : decode cJ0_isLatin1_aae02 13 = .ok (.iconst 1, 1) := by decide +kernel
theorem dJ0_isLatin1_aae02_14 : decode cJ0_isLatin1_aae02 14 = .ok (.goto 4, 3) := by decide +kernel
theorem dJ0_isLatin1_aae02_17 : decode cJ0_isLatin1_aae02 17 = .ok (.iconst 0, 1) := by decide +kernel
theorem dJ0_isLatin1_aae02_18 : decode cJ0_isLatin1_aae02 18 = .ok (.ireturn, 1) := by decide +kernel
theorem dJ0_checkIndex_df160_0 : decode cJ0_checkIndex_df160 0 = .ok (.iload_n 0, 1) := by decide +kernel
theorem dJ0_checkIndex_df160_1 : decode cJ0_checkIndex_df160 1 = .ok (.iload_n 1, 1) := by decide +kernel
theorem dJ0_checkIndex_df160_2 : decode cJ0_checkIndex_df160 2 = .ok (.getstatic 1053, 3) := by decide +kernel
theorem dJ0_checkIndex_df160_5 : decode cJ0_checkIndex_df160 5 = .ok (.invokestatic 1059, 3) := by decide +kernel
theorem dJ0_checkIndex_df160_8 : decode cJ0_checkIndex_df160 8 = .ok (.pop, 1) := by decide +kernel
theorem dJ0_checkIndex_df160_9 : decode cJ0_checkIndex_df160 9 = .ok (.return_, 1) := by decide +kernel
theorem dJ3_checkIndex_8e157_0 : decode cJ3_checkIndex_8e157 0 = .ok (.iload_n 0, 1) := by decide +kernel
theorem dJ3_checkIndex_8e157_1 : decode cJ3_checkIndex_8e157 1 = .ok (.ifCond .lt 8, 3) := by decide +kernel
theorem dJ3_checkIndex_8e157_4 : decode cJ3_checkIndex_8e157 4 = .ok (.iload_n 0, 1) := by decide +kernel
theorem dJ3_checkIndex_8e157_5 : decode cJ3_checkIndex_8e157 5 = .ok (.iload_n 1, 1) := by decide +kernel
theorem dJ3_checkIndex_8e157_6 : decode cJ3_checkIndex_8e157 6 = .ok (.if_icmp .lt 10, 3) := by decide +kernel
theorem dJ3_checkIndex_8e157_9 : decode cJ3_checkIndex_8e157 9 = .ok (.aload_n 2, 1) := by decide +kernel
theorem dJ3_checkIndex_8e157_10 : decode cJ3_checkIndex_8e157 10 = .ok (.iload_n 0, 1) := by decide +kernel
theorem dJ3_checkIndex_8e157_11 : decode cJ3_checkIndex_8e157 11 = .ok (.iload_n 1, 1) := by decide +kernel
theorem dJ3_checkIndex_8e157_12 : decode cJ3_checkIndex_8e157 12 = .ok (.invokestatic 95, 3) := by decide +kernel
theorem dJ3_checkIndex_8e157_15 : decode cJ3_checkIndex_8e157 15 = .ok (.athrow, 1) := by decide +kernel
theorem dJ3_checkIndex_8e157_16 : decode cJ3_checkIndex_8e157 16 = .ok (.iload_n 0, 1) := by decide +kernel
theorem dJ3_checkIndex_8e157_17 : decode cJ3_checkIndex_8e157 17 = .ok (.ireturn, 1) := by decide +kernel
theorem dJ1_charAt_3b067_0 : decode cJ1_charAt_3b067 0 = .ok (.iload_n 1, 1) := by decide +kernel
theorem dJ1_charAt_3b067_1 : decode cJ1_charAt_3b067 1 = .ok (.aload_n 0, 1) := by decide +kernel
theorem dJ1_charAt_3b067_2 : decode cJ1_charAt_3b067 2 = .ok (.arraylength, 1) := by decide +kernel
theorem dJ1_charAt_3b067_3 : decode cJ1_charAt_3b067 3 = .ok (.invokestatic 9, 3) := by decide +kernel
theorem dJ1_charAt_3b067_6 : decode cJ1_charAt_3b067 6 = .ok (.aload_n 0, 1) := by decide +kernel
theorem dJ1_charAt_3b067_7 : decode cJ1_charAt_3b067 7 = .ok (.iload_n 1, 1) := by decide +kernel
theorem dJ1_charAt_3b067_8 : decode cJ1_charAt_3b067 8 = .ok (.baload, 1) := by decide +kernel
theorem dJ1_charAt_3b067_9 : decode cJ1_charAt_3b067 9 = .ok (.sipush 255, 3) := by decide +kernel
theorem dJ1_charAt_3b067_12 : decode cJ1_charAt_3b067 12 = .ok (.iand, 1) := by decide +kernel
theorem dJ1_charAt_3b067_13 : decode cJ1_charAt_3b067 13 = .ok (.i2c, 1) := by decide +kernel
theorem dJ1_charAt_3b067_14 : decode cJ1_charAt_3b067 14 = .ok (.ireturn, 1) := by decide +kernel
theorem dJ0_charAt_5068e_0 : decode cJ0_charAt_5068e 0 = .ok (.aload_n 0, 1) := by decide +kernel
theorem dJ0_charAt_5068e_1 : decode cJ0_charAt_5068e 1 = .ok (.invokevirtual 492, 3) := by decide +kernel
theorem dJ0_charAt_5068e_4 : decode cJ0_charAt_5068e 4 = .ok (.ifCond .eq 12, 3) := by decide +kernel
theorem dJ0_charAt_5068e_7 : decode cJ0_charAt_5068e 7 = .ok (.aload_n 0, 1) := by decide +kernel
theorem dJ0_charAt_5068e_8 : decode cJ0_charAt_5068e 8 = .ok (.getfield 9, 3) := by decide +kernel
theorem dJ0_charAt_5068e_11 : decode cJ0_charAt_5068e 11 = .ok (.iload_n 1, 1) := by decide +kernel
theorem dJ0_charAt_5068e_12 : decode cJ0_charAt_5068e 12 = .ok (.invokestatic 495, 3) := by decide +kernel
theorem dJ0_charAt_5068e_15 : decode cJ0_charAt_5068e 15 = .ok (.ireturn, 1) := by decide +kernel
theorem dJ0_charAt_5068e_16 : decode cJ0_charAt_5068e 16 = .ok (.aload_n 0, 1) := by decide +kernel
theorem dJ0_charAt_5068e_17 : decode cJ0_charAt_5068e 17 = .ok (.getfield 9, 3) := by decide +kernel
theorem dJ0_charAt_5068e_20 : decode cJ0_charAt_5068e 20 = .ok (.iload_n 1, 1) := by decide +kernel
theorem dJ0_charAt_5068e_21 : decode cJ0_charAt_5068e 21 = .ok (.invokestatic 498, 3) := by decide +kernel
theorem dJ0_charAt_5068e_24 : decode cJ0_charAt_5068e 24 = .ok (.ireturn, 1) := by decide +kernel
theorem dJ1_canEncode_9a6ad_0 : decode cJ1_canEncode_9a6ad 0 = .ok (.iload_n 0, 1) := by decide +kernel
theorem dJ1_canEncode_9a6ad_1 : decode cJ1_canEncode_9a6ad 1 = .ok (.ifCond .lt 14, 3) := by decide +kernel
theorem dJ1_canEncode_9a6ad_4 : decode cJ1_canEncode_9a6ad 4 = .ok (.iload_n 0, 1) := by decide +kernel
theorem dJ1_canEncode_9a6ad_5 : decode cJ1_canEncode_9a6ad 5 = .ok (.sipush 255, 3) := by decide +kernel
theorem dJ1_canEncode_9a6ad_8 : decode cJ1_canEncode_9a6ad 8 = .ok (.if_icmp .gt 7, 3) := by decide +kernel
theorem dJ1_canEncode_9a6ad_11 : decode cJ1_canEncode_9a6ad 11 = .ok (.iconst 1, 1) := by decide +kernel
theorem dJ1_canEncode_9a6ad_12 : decode cJ1_canEncode_9a6ad 12 = .ok (.goto 4, 3) := by decide +kernel
theorem dJ1_canEncode_9a6ad_15 : decode cJ1_canEncode_9a6ad 15 = .ok (.iconst 0, 1) := by decide +kernel
theorem dJ1_canEncode_9a6ad_16 : decode cJ1_canEncode_9a6ad 16 = .ok (.ireturn, 1) := by decide +kernel
theorem dJ1_indexOfChar_4cfef_0 : decode cJ1_indexOfChar_4cfef 0 = .ok (.iload_n 1, 1) := by decide +kernel
theorem dJ1_indexOfChar_4cfef_1 : decode cJ1_indexOfChar_4cfef 1 = .ok (.i2b, 1) := by decide +kernel
theorem dJ1_indexOfChar_4cfef_2 : decode cJ1_indexOfChar_4cfef 2 = .ok (.istore 4, 2) := by decide +kernel
theorem dJ1_indexOfChar_4cfef_4 : decode cJ1_indexOfChar_4cfef 4 = .ok (.iload_n 2, 1) := by decide +kernel
theorem dJ1_indexOfChar_4cfef_5 : decode cJ1_indexOfChar_4cfef 5 = .ok (.istore 5, 2) := by decide +kernel
theorem dJ1_indexOfChar_4cfef_7 : decode cJ1_indexOfChar_4cfef 7 = .ok (.iload 5, 2) := by decide +kernel
theorem dJ1_indexOfChar_4cfef_9 : decode cJ1_indexOfChar_4cfef 9 = .ok (.iload_n 3, 1) := by decide +kernel
theorem dJ1_indexOfChar_4cfef_10 : decode cJ1_indexOfChar_4cfef 10 = .ok (.if_icmp .ge 21, 3) := by decide +kernel
theorem dJ1_indexOfChar_4cfef_13 : decode cJ1_indexOfChar_4cfef 13 = .ok (.aload_n 0, 1) := by decide +kernel
theorem dJ1_indexOfChar_4cfef_14 : decode cJ1_indexOfChar_4cfef 14 = .ok (.iload 5, 2) := by decide +kernel
theorem dJ1_indexOfChar_4cfef_16 : decode cJ1_indexOfChar_4cfef 16 = .ok (.baload, 1) := by decide +kernel
theorem dJ1_indexOfChar_4cfef_17 : decode cJ1_indexOfChar_4cfef 17 = .ok (.iload 4, 2) := by decide +kernel
theorem dJ1_indexOfChar_4cfef_19 : decode cJ1_indexOfChar_4cfef 19 = .ok (.if_icmp .ne 6, 3) := by decide +kernel
theorem dJ1_indexOfChar_4cfef_22 : decode cJ1_indexOfChar_4cfef 22 = .ok (.iload 5, 2) := by decide +kernel
theorem dJ1_indexOfChar_4cfef_24 : decode cJ1_indexOfChar_4cfef 24 = .ok (.ireturn, 1) := by decide +kernel
theorem dJ1_indexOfChar_4cfef_25 : decode cJ1_indexOfChar_4cfef 25 = .ok (.iinc 5 1, 3) := by decide +kernel
theorem dJ1_indexOfChar_4cfef_28 : decode cJ1_indexOfChar_4cfef 28 = .ok (.goto (-21), 3) := by decide +kernel
theorem dJ1_indexOfChar_4cfef_31 : decode cJ1_indexOfChar_4cfef 31 = .ok (.iconst (-1), 1) := by decide +kernel
theorem dJ1_indexOfChar_4cfef_32 : decode cJ1_indexOfChar_4cfef 32 = .ok (.ireturn, 1) := by decide +kernel
theorem dJ1_indexOf_4cfef_0 : decode cJ1_indexOf_4cfef 0 = .ok (.iload_n 1, 1) := by decide +kernel
theorem dJ1_indexOf_4cfef_1 : decode cJ1_indexOf_4cfef 1 = .ok (.invokestatic 88, 3) := by decide +kernel
theorem dJ1_indexOf_4cfef_4 : decode cJ1_indexOf_4cfef 4 = .ok (.ifCond .ne 5, 3) := by decide +kernel
theorem dJ1_indexOf_4cfef_7 : decode cJ1_indexOf_4cfef 7 = .ok (.iconst (-1), 1) := by decide +kernel
theorem dJ1_indexOf_4cfef_8 : decode cJ1_indexOf_4cfef 8 = .ok (.ireturn, 1) := by decide +kernel
theorem dJ1_indexOf_4cfef_9 : decode cJ1_indexOf_4cfef 9 = .ok (.iload_n 2, 1) := by decide +kernel
theorem dJ1_indexOf_4cfef_10 : decode cJ1_indexOf_4cfef 10 = .ok (.iconst 0, 1) := by decide +kernel
theorem dJ1_indexOf_4cfef_11 : decode cJ1_indexOf_4cfef 11 = .ok (.invokestatic 92, 3) := by decide +kernel
theorem dJ1_indexOf_4cfef_14 : decode cJ1_indexOf_4cfef 14 = .ok (.istore_n 2, 1) := by decide +kernel
theorem dJ1_indexOf_4cfef_15 : decode cJ1_indexOf_4cfef 15 = .ok (.iload_n 3, 1) := by decide +kernel
theorem dJ1_indexOf_4cfef_16 : decode cJ1_indexOf_4cfef 16 = .ok (.aload_n 0, 1) := by decide +kernel
theorem dJ1_indexOf_4cfef_17 : decode cJ1_indexOf_4cfef 17 = .ok (.arraylength, 1) := by decide +kernel
theorem dJ1_indexOf_4cfef_18 : decode cJ1_indexOf_4cfef 18 = .ok (.invokestatic 38, 3) := by decide +kernel
theorem dJ1_indexOf_4cfef_21 : decode cJ1_indexOf_4cfef 21 = .ok (.istore_n 3, 1) := by decide +kernel
theorem dJ1_indexOf_4cfef_22 : decode cJ1_indexOf_4cfef 22 = .ok (.iload_n 2, 1) := by decide +kernel
theorem dJ1_indexOf_4cfef_23 : decode cJ1_indexOf_4cfef 23 = .ok (.iload_n 3, 1) := by decide +kernel
theorem dJ1_indexOf_4cfef_24 : decode cJ1_indexOf_4cfef 24 = .ok (.if_icmp .lt 5, 3) := by decide +kernel
theorem dJ1_indexOf_4cfef_27 : decode cJ1_indexOf_4cfef 27 = .ok (.iconst (-1), 1) := by decide +kernel
theorem dJ1_indexOf_4cfef_28 : decode cJ1_indexOf_4cfef 28 = .ok (.ireturn, 1) := by decide +kernel
theorem dJ1_indexOf_4cfef_29 : decode cJ1_indexOf_4cfef 29 = .ok (.aload_n 0, 1) := by decide +kernel
theorem dJ1_indexOf_4cfef_30 : decode cJ1_indexOf_4cfef 30 = .ok (.iload_n 1, 1) := by decide +kernel
theorem dJ1_indexOf_4cfef_31 : decode cJ1_indexOf_4cfef 31 = .ok (.iload_n 2, 1) := by decide +kernel
theorem dJ1_indexOf_4cfef_32 : decode cJ1_indexOf_4cfef 32 = .ok (.iload_n 3, 1) := by decide +kernel
theorem dJ1_indexOf_4cfef_33 : decode cJ1_indexOf_4cfef 33 = .ok (.invokestatic 95, 3) := by decide +kernel
theorem dJ1_indexOf_4cfef_36 : decode cJ1_indexOf_4cfef 36 = .ok (.ireturn, 1) := by decide +kernel
theorem dJ0_indexOf_7cf53_0 : decode cJ0_indexOf_7cf53 0 = .ok (.aload_n 0, 1) := by decide +kernel
theorem dJ0_indexOf_7cf53_1 : decode cJ0_indexOf_7cf53 1 = .ok (.invokevirtual 492, 3) := by decide +kernel
theorem dJ0_indexOf_7cf53_4 : decode cJ0_indexOf_7cf53 4 = .ok (.ifCond .eq 19, 3) := by decide +kernel
theorem dJ0_indexOf_7cf53_7 : decode cJ0_indexOf_7cf53 7 = .ok (.aload_n 0, 1) := by decide +kernel
theorem dJ0_indexOf_7cf53_8 : decode cJ0_indexOf_7cf53 8 = .ok (.getfield 9, 3) := by decide +kernel
theorem dJ0_indexOf_7cf53_11 : decode cJ0_indexOf_7cf53 11 = .ok (.iload_n 1, 1) := by decide +kernel
theorem dJ0_indexOf_7cf53_12 : decode cJ0_indexOf_7cf53 12 = .ok (.iload_n 2, 1) := by decide +kernel
theorem dJ0_indexOf_7cf53_13 : decode cJ0_indexOf_7cf53 13 = .ok (.aload_n 0, 1) := by decide +kernel
theorem dJ0_indexOf_7cf53_14 : decode cJ0_indexOf_7cf53 14 = .ok (.invokevirtual 505, 3) := by decide +kernel
theorem dJ0_indexOf_7cf53_17 : decode cJ0_indexOf_7cf53 17 = .ok (.invokestatic 637, 3) := by decide +kernel
theorem dJ0_indexOf_7cf53_20 : decode cJ0_indexOf_7cf53 20 = .ok (.goto 16, 3) := by decide +kernel
theorem dJ0_indexOf_7cf53_23 : decode cJ0_indexOf_7cf53 23 = .ok (.aload_n 0, 1) := by decide +kernel
theorem dJ0_indexOf_7cf53_24 : decode cJ0_indexOf_7cf53 24 = .ok (.getfield 9, 3) := by decide +kernel
theorem dJ0_indexOf_7cf53_27 : decode cJ0_indexOf_7cf53 27 = .ok (.iload_n 1, 1) := by decide +kernel
theorem dJ0_indexOf_7cf53_28 : decode cJ0_indexOf_7cf53 28 = .ok (.iload_n 2, 1) := by decide +kernel
theorem dJ0_indexOf_7cf53_29 : decode cJ0_indexOf_7cf53 29 = .ok (.aload_n 0, 1) := by decide +kernel
theorem dJ0_indexOf_7cf53_30 : decode cJ0_indexOf_7cf53 30 = .ok (.invokevirtual 505, 3) := by decide +kernel
theorem dJ0_indexOf_7cf53_33 : decode cJ0_indexOf_7cf53 33 = .ok (.invokestatic 640, 3) := by decide +kernel
theorem dJ0_indexOf_7cf53_36 : decode cJ0_indexOf_7cf53 36 = .ok (.ireturn, 1) := by decide +kernel
theorem dJ0_indexOf_0f7a4_0 : decode cJ0_indexOf_0f7a4 0 = .ok (.aload_n 0, 1) := by decide +kernel
theorem dJ0_indexOf_0f7a4_1 : decode cJ0_indexOf_0f7a4 1 = .ok (.iload_n 1, 1) := by decide +kernel
theorem dJ0_indexOf_0f7a4_2 : decode cJ0_indexOf_0f7a4 2 = .ok (.iconst 0, 1) := by decide +kernel
theorem dJ0_indexOf_0f7a4_3 : decode cJ0_indexOf_0f7a4 3 = .ok (.invokevirtual 633, 3) := by decide +kernel
theorem dJ0_indexOf_0f7a4_6 : decode cJ0_indexOf_0f7a4 6 = .ok (.ireturn, 1) := by decide +kernel
def pvrmX : Room := { frames := 12, cells := 0, slots := 0, locals := 370 }
abbrev pvRm (f lc : Nat) : Room := { frames := f, cells := 0, slots := 0, locals := lc }
section PVS
variable {p : Program} {l : Launch} {e : Env} {R : Room} {s : State} {m : MethodId} {args : Array Value} {below : List Frame} {meth : Method} {c : Code} {H : Heap} {locs : List Loc} {cells slots pc : Nat} {ls : Array Slot} {D : va_G} {A : Nat → Prop} {cc : ByteArray} {S : Type} {k n : Nat}
theorem zret_n (hx : p.tables.exec = Jvm.exec) (hb : c.code = cc) {ty : FieldType} (hr : meth.sig.returnType = some ty) (hlocks : meth.locks = false) (hS : va_S A s.heap H locs) {post : Int32 → S → Prop} {w1 : S → va_W} (u : S) {v : Int32} (hn : narrow ty (.int v) = .int v) (hp : post v u) (hW : zPD D A (w1 u) H) (hc : cells ≤ k) (hs : slots ≤ n) (hdg : decode cc pc = .ok (.ireturn, 1)) : W p l e R s m args below meth c H locs cells slots (MQ below (zQi D post w1 A) args s k n A) (F0 m pc ls [.int v]) :=
  W.widen hc hs (W.zret (v := v) hx hb hr hn (fun t ht _ => ⟨⟨v, u, rfl, hp, by rw [ht]; exact hW.1, hW.2⟩, hS.F ht⟩) hS.2.2 hdg hlocks)
end PVS
theorem pvXb : ∀ k, k < 7 → ∀ j, j < zsl.getD k 0 → (Int32.toUInt32 ((zsb.getD k []).getD j 0 &&& 255) % 65536).toInt32 = (zsb.getD k []).getD j 0 ∧ narrow .char (.int ((zsb.getD k []).getD j 0)) = .int ((zsb.getD k []).getD j 0) := by decide +kernel
theorem pvXs : ∀ k, k < 7 → nI (zsl.getD k 0) >>> ((0 : Int32) &&& 31) = nI (zsl.getD k 0) := by decide +kernel
theorem pvXl : ∀ k, k < 7 → zsl.getD k 0 = (zsb.getD k []).length ∧ zsl.getD k 0 ≤ 6 := by decide +kernel
theorem pvXz : ∀ k, k < 7 → (nI (zsl.getD k 0) = 0 ↔ zsl.getD k 0 = 0) := by decide +kernel
theorem pvXo : ∀ k, k < 7 → (0 < nI (zsl.getD k 0) ↔ ¬ zsl.getD k 0 = 0) := by decide +kernel
theorem pvXi (c : Int32) (h0 : 0 ≤ c) (h1 : c < 128) : c.toInt8.toInt32 = c := by
  have a := (zi_le _ _).mp h0
  have b := (zi_lt _ _).mp h1
  have e0 : (0 : Int32).toInt = 0 := by decide
  have e1 : (128 : Int32).toInt = 128 := by decide
  apply Int32.toInt_inj.mp
  rw [Int8.toInt_toInt32, Int32.toInt_toInt8, Int.bmod_eq_of_le] <;> omega
set_option maxHeartbeats 8000000 in
set_option maxRecDepth 100000 in
theorem pvXc (l : Launch) (D : va_G) (y : Nat → ClassId) (k : Nat) (hk : k < 7) : zM l D y yJ0_coder_7d493 (Cond.code yJ0_coder_7d493 cJ0_coder_7d493 1 (some .byte) :: zT) (pvRm 0 0) [.ref (y (10 + k))] [] (zQi (S := Unit) D (fun r _ => r = 0) (fun _ => [])) := by
  refine zent (cc := cJ0_coder_7d493) (maxL := 1) (ret := (some .byte)) (by decide) (Nat.le_of_ble_eq_true rfl) ?_
  intro p e s m below meth c A H locs ls hx hb hml hr ht hown hlocks hin hA hK hE hS hW hl
  have hown : s.vm.findClass RJ0 = some m.cls := hown
  have hW : zPD D A [] H := hW
  have hl : lv_has ls 1 [(0, .ref (y (10 + k)))] := hl
  refine va_gets hx hb hE.2.2.2.2.2.2.1 hS hown (ht _ zm_503) (fun _ h => h) dJ0_coder_7d493_0 ?_
  refine lv_if_eq (tgt := 13) hx hb dJ0_coder_7d493_3 (by decide) (fun c1 => absurd c1 (by decide)) (fun _ => ?_)
  refine lv_aload_n hx hb dJ0_coder_7d493_6 rfl (lv_at hl 0 rfl) ?_
  refine vk_getf hx hb (hE.1.1 k hk).2.1 hS hown (ht _ zm_504) (fun _ h => h) dJ0_coder_7d493_7 ?_
  refine lv_goto (tgt := 14) hx hb dJ0_coder_7d493_10 (by decide) ?_
  exact zret_n (v := 0) hx hb hr hlocks hS () rfl rfl hW (Nat.le_of_ble_eq_true rfl) (Nat.le_of_ble_eq_true rfl) dJ0_coder_7d493_14
set_option maxHeartbeats 8000000 in
set_option maxRecDepth 100000 in
theorem pvX0a (l : Launch) (D : va_G) (y : Nat → ClassId) (k : Nat) (hk : k < 7) : zM l D y yJ0_length_8abf5 (Cond.code yJ0_length_8abf5 cJ0_length_8abf5 1 (some .int) :: zT) (pvRm 1 20) [.ref (y (10 + k))] [] (zQi (S := Unit) D (fun r _ => r = nI (zsl.getD k 0)) (fun _ => [])) := by
  refine zent (cc := cJ0_length_8abf5) (maxL := 1) (ret := (some .int)) (by decide) (Nat.le_of_ble_eq_true rfl) ?_
  intro p e s m below meth c A H locs ls hx hb hml hr ht hown hlocks hin hA hK hE hS hW hl
  have hown : s.vm.findClass RJ0 = some m.cls := hown
  have hW : zPD D A [] H := hW
  have hl : lv_has ls 1 [(0, .ref (y (10 + k)))] := hl
  refine lv_aload_n hx hb dJ0_length_8abf5_0 rfl (lv_at hl 0 rfl) ?_
  refine vk_getf hx hb (hE.1.1 k hk).2.2.1 hS hown (ht _ zm_490) (fun _ h => h) dJ0_length_8abf5_1 ?_
  refine va_tlen (v := nI (zsl.getD k 0)) hx hb (hE.1.1 k hk).2.2.2 hS rfl dJ0_length_8abf5_4 ?_
  refine lv_aload_n hx hb dJ0_length_8abf5_5 rfl (lv_at hl 0 rfl) ?_
  refine zgo0_i (zrunVS (As := []) (rest := [.int (nI (zsl.getD k 0))]) ⟨hx, hb, hml, hown, ht⟩ (pvXc l D y k hk) (cwV 0 ht (zgV zm_499 zm_500 zm_501 zm_488 zm_502) rfl rfl rfl (by decide +kernel) ⟨(Nat.le_of_ble_eq_true rfl), (Nat.le_of_ble_eq_true rfl)⟩) hK hE hS hA hW [] rfl rfl k hk rfl rfl hl.1 rfl (Nat.le_of_ble_eq_true rfl) dJ0_length_8abf5_6 (Nat.le_of_ble_eq_true rfl) (Nat.le_of_ble_eq_true rfl)) hS hA hW (fun r1 u H locs hw hW hS => ?_)
  have hw : r1 = 0 := hw
  subst hw
  refine lv_ishr hx hb dJ0_length_8abf5_9 ?_
  exact zret_i (v := nI (zsl.getD k 0) >>> ((0 : Int32) &&& 31)) hx hb hr hlocks hS () (pvXs k hk) hW (Nat.le_of_ble_eq_true rfl) (Nat.le_of_ble_eq_true rfl) dJ0_length_8abf5_10
set_option maxHeartbeats 8000000 in
set_option maxRecDepth 100000 in
theorem pvX0 (l : Launch) (D : va_G) (y : Nat → ClassId) (k : Nat) (hk : k < 7) : zM l D y yJ0_length_8abf5 (Cond.code yJ0_length_8abf5 cJ0_length_8abf5 1 (some .int) :: zT) pvrmX [.ref (y (10 + k))] [] (zQi (S := Unit) D (fun r _ => r = nI (zsl.getD k 0)) (fun _ => [])) := by
  refine zent (cc := cJ0_length_8abf5) (maxL := 1) (ret := (some .int)) (by decide) (Nat.le_of_ble_eq_true rfl) ?_
  intro p e s m below meth c A H locs ls hx hb hml hr ht hown hlocks hin hA hK hE hS hW hl
  have hown : s.vm.findClass RJ0 = some m.cls := hown
  have hW : zPD D A [] H := hW
  have hl : lv_has ls 1 [(0, .ref (y (10 + k)))] := hl
  refine lv_aload_n hx hb dJ0_length_8abf5_0 rfl (lv_at hl 0 rfl) ?_
  refine vk_getf hx hb (hE.1.1 k hk).2.2.1 hS hown (ht _ zm_490) (fun _ h => h) dJ0_length_8abf5_1 ?_
  refine va_tlen (v := nI (zsl.getD k 0)) hx hb (hE.1.1 k hk).2.2.2 hS rfl dJ0_length_8abf5_4 ?_
  refine lv_aload_n hx hb dJ0_length_8abf5_5 rfl (lv_at hl 0 rfl) ?_
  refine zgo0_i (zrunVS (As := []) (rest := [.int (nI (zsl.getD k 0))]) ⟨hx, hb, hml, hown, ht⟩ (pvXc l D y k hk) (cwV 0 ht (zgV zm_499 zm_500 zm_501 zm_488 zm_502) rfl rfl rfl (by decide +kernel) ⟨(Nat.le_of_ble_eq_true rfl), (Nat.le_of_ble_eq_true rfl)⟩) hK hE hS hA hW [] rfl rfl k hk rfl rfl hl.1 rfl (Nat.le_of_ble_eq_true rfl) dJ0_length_8abf5_6 (Nat.le_of_ble_eq_true rfl) (Nat.le_of_ble_eq_true rfl)) hS hA hW (fun r1 u H locs hw hW hS => ?_)
  have hw : r1 = 0 := hw
  subst hw
  refine lv_ishr hx hb dJ0_length_8abf5_9 ?_
  exact zret_i (v := nI (zsl.getD k 0) >>> ((0 : Int32) &&& 31)) hx hb hr hlocks hS () (pvXs k hk) hW (Nat.le_of_ble_eq_true rfl) (Nat.le_of_ble_eq_true rfl) dJ0_length_8abf5_10
set_option maxHeartbeats 8000000 in
set_option maxRecDepth 100000 in
theorem pvX1 (l : Launch) (D : va_G) (y : Nat → ClassId) (k : Nat) (hk : k < 7) : zM l D y yJ0_isEmpty_aae02 (Cond.code yJ0_isEmpty_aae02 cJ0_isEmpty_aae02 1 (some .boolean) :: zT) pvrmX [.ref (y (10 + k))] [] (zQi (S := Unit) D (fun r _ => r = if zsl.getD k 0 = 0 then 1 else 0) (fun _ => [])) := by
  refine zent (cc := cJ0_isEmpty_aae02) (maxL := 1) (ret := (some .boolean)) (by decide) (Nat.le_of_ble_eq_true rfl) ?_
  intro p e s m below meth c A H locs ls hx hb hml hr ht hown hlocks hin hA hK hE hS hW hl
  have hown : s.vm.findClass RJ0 = some m.cls := hown
  have hW : zPD D A [] H := hW
  have hl : lv_has ls 1 [(0, .ref (y (10 + k)))] := hl
  refine lv_aload_n hx hb dJ0_isEmpty_aae02_0 rfl (lv_at hl 0 rfl) ?_
  refine vk_getf hx hb (hE.1.1 k hk).2.2.1 hS hown (ht _ zm_490) (fun _ h => h) dJ0_isEmpty_aae02_1 ?_
  refine va_tlen (v := nI (zsl.getD k 0)) hx hb (hE.1.1 k hk).2.2.2 hS rfl dJ0_isEmpty_aae02_4 ?_
  refine lv_if_ne (tgt := 12) hx hb dJ0_isEmpty_aae02_5 (by decide) (fun c1 => ?_) (fun c1 => ?_)
  · refine lv_iconst (v := 0) hx hb dJ0_isEmpty_aae02_12 (by decide) ?_
    exact zret_n (v := 0) hx hb hr hlocks hS () rfl (if_neg (fun z => c1 ((pvXz k hk).mpr z))).symm hW (Nat.le_of_ble_eq_true rfl) (Nat.le_of_ble_eq_true rfl) dJ0_isEmpty_aae02_13
  · refine lv_iconst (v := 1) hx hb dJ0_isEmpty_aae02_8 (by decide) ?_
    refine lv_goto (tgt := 13) hx hb dJ0_isEmpty_aae02_9 (by decide) ?_
    exact zret_n (v := 1) hx hb hr hlocks hS () rfl (if_pos ((pvXz k hk).mp c1)).symm hW (Nat.le_of_ble_eq_true rfl) (Nat.le_of_ble_eq_true rfl) dJ0_isEmpty_aae02_13
set_option maxHeartbeats 8000000 in
set_option maxRecDepth 100000 in
theorem pvXi1 (l : Launch) (D : va_G) (y : Nat → ClassId) (k : Nat) (hk : k < 7) : zM l D y yJ0_isLatin1_aae02 (Cond.code yJ0_isLatin1_aae02 cJ0_isLatin1_aae02 1 (some .boolean) :: zT) (pvRm 0 0) [.ref (y (10 + k))] [] (zQi (S := Unit) D (fun r _ => r = 1) (fun _ => [])) := by
  refine zent (cc := cJ0_isLatin1_aae02) (maxL := 1) (ret := (some .boolean)) (by decide) (Nat.le_of_ble_eq_true rfl) ?_
  intro p e s m below meth c A H locs ls hx hb hml hr ht hown hlocks hin hA hK hE hS hW hl
  have hown : s.vm.findClass RJ0 = some m.cls := hown
  have hW : zPD D A [] H := hW
  have hl : lv_has ls 1 [(0, .ref (y (10 + k)))] := hl
  refine va_gets hx hb hE.2.2.2.2.2.2.1 hS hown (ht _ zm_503) (fun _ h => h) dJ0_isLatin1_aae02_0 ?_
  refine lv_if_eq (tgt := 17) hx hb dJ0_isLatin1_aae02_3 (by decide) (fun c1 => absurd c1 (by decide)) (fun _ => ?_)
  refine lv_aload_n hx hb dJ0_isLatin1_aae02_6 rfl (lv_at hl 0 rfl) ?_
  refine vk_getf hx hb (hE.1.1 k hk).2.1 hS hown (ht _ zm_504) (fun _ h => h) dJ0_isLatin1_aae02_7 ?_
  refine lv_if_ne (tgt := 17) hx hb dJ0_isLatin1_aae02_10 (by decide) (fun c1 => absurd rfl c1) (fun _ => ?_)
  refine lv_iconst (v := 1) hx hb dJ0_isLatin1_aae02_13 (by decide) ?_
  refine lv_goto (tgt := 18) hx hb dJ0_isLatin1_aae02_14 (by decide) ?_
  exact zret_n (v := 1) hx hb hr hlocks hS () rfl rfl hW (Nat.le_of_ble_eq_true rfl) (Nat.le_of_ble_eq_true rfl) dJ0_isLatin1_aae02_18
set_option maxHeartbeats 8000000 in
set_option maxRecDepth 100000 in
theorem pvXk3n (l : Launch) (D : va_G) (y : Nat → ClassId) (k : Nat) (hk : k < 7) (x n : Int32) (x0 : ¬ x < 0) (x1 : x < n) : zM l D y yJ3_checkIndex_8e157 (Cond.code yJ3_checkIndex_8e157 cJ3_checkIndex_8e157 3 (some .int) :: zT) (pvRm 0 0) [.int x, .int n, .null] [] (zQi (S := Unit) D (fun r _ => r = x) (fun _ => [])) := by
  refine zent (cc := cJ3_checkIndex_8e157) (maxL := 3) (ret := (some .int)) (by decide) (Nat.le_of_ble_eq_true rfl) ?_
  intro p e s m below meth c A H locs ls hx hb hml hr ht hown hlocks hin hA hK hE hS hW hl
  have hown : s.vm.findClass RJ3 = some m.cls := hown
  have hW : zPD D A [] H := hW
  have hl : lv_has ls 3 [(0, .int x), (1, .int n), (2, .null)] := hl
  refine lv_iload_n hx hb dJ3_checkIndex_8e157_0 rfl (lv_at hl 0 rfl) ?_
  refine lv_if_lt (tgt := 9) hx hb dJ3_checkIndex_8e157_1 (by decide) (fun c1 => absurd c1 x0) (fun _ => ?_)
  refine lv_iload_n hx hb dJ3_checkIndex_8e157_4 rfl (lv_at hl 0 rfl) ?_
  refine lv_iload_n hx hb dJ3_checkIndex_8e157_5 rfl (lv_at hl 1 rfl) ?_
  refine lv_icmp_lt (tgt := 16) hx hb dJ3_checkIndex_8e157_6 (by decide) (fun _ => ?_) (fun c1 => absurd x1 c1)
  refine lv_iload_n hx hb dJ3_checkIndex_8e157_16 rfl (lv_at hl 0 rfl) ?_
  exact zret_i (v := x) hx hb hr hlocks hS () rfl hW (Nat.le_of_ble_eq_true rfl) (Nat.le_of_ble_eq_true rfl) dJ3_checkIndex_8e157_17
set_option maxHeartbeats 8000000 in
set_option maxRecDepth 100000 in
theorem pvXk3r (l : Launch) (D : va_G) (y : Nat → ClassId) (k : Nat) (hk : k < 7) (x n : Int32) (x0 : ¬ x < 0) (x1 : x < n) (w : Nat) : zM l D y yJ3_checkIndex_8e157 (Cond.code yJ3_checkIndex_8e157 cJ3_checkIndex_8e157 3 (some .int) :: zT) (pvRm 0 0) [.int x, .int n, .ref w] [] (zQi (S := Unit) D (fun r _ => r = x) (fun _ => [])) := by
  refine zent (cc := cJ3_checkIndex_8e157) (maxL := 3) (ret := (some .int)) (by decide) (Nat.le_of_ble_eq_true rfl) ?_
  intro p e s m below meth c A H locs ls hx hb hml hr ht hown hlocks hin hA hK hE hS hW hl
  have hown : s.vm.findClass RJ3 = some m.cls := hown
  have hW : zPD D A [] H := hW
  have hl : lv_has ls 3 [(0, .int x), (1, .int n), (2, .ref w)] := hl
  refine lv_iload_n hx hb dJ3_checkIndex_8e157_0 rfl (lv_at hl 0 rfl) ?_
  refine lv_if_lt (tgt := 9) hx hb dJ3_checkIndex_8e157_1 (by decide) (fun c1 => absurd c1 x0) (fun _ => ?_)
  refine lv_iload_n hx hb dJ3_checkIndex_8e157_4 rfl (lv_at hl 0 rfl) ?_
  refine lv_iload_n hx hb dJ3_checkIndex_8e157_5 rfl (lv_at hl 1 rfl) ?_
  refine lv_icmp_lt (tgt := 16) hx hb dJ3_checkIndex_8e157_6 (by decide) (fun _ => ?_) (fun c1 => absurd x1 c1)
  refine lv_iload_n hx hb dJ3_checkIndex_8e157_16 rfl (lv_at hl 0 rfl) ?_
  exact zret_i (v := x) hx hb hr hlocks hS () rfl hW (Nat.le_of_ble_eq_true rfl) (Nat.le_of_ble_eq_true rfl) dJ3_checkIndex_8e157_17
set_option maxHeartbeats 8000000 in
set_option maxRecDepth 100000 in
theorem pvXk0 (l : Launch) (D : va_G) (y : Nat → ClassId) (k : Nat) (hk : k < 7) (x n : Int32) (x0 : ¬ x < 0) (x1 : x < n) : zM l D y yJ0_checkIndex_df160 (Cond.code yJ0_checkIndex_df160 cJ0_checkIndex_df160 2 none :: zT) (pvRm 1 22) [.int x, .int n] [] (zQv (S := Unit) D (fun _ => True) (fun _ => [])) := by
  refine zent (cc := cJ0_checkIndex_df160) (maxL := 2) (ret := none) (by decide) (Nat.le_of_ble_eq_true rfl) ?_
  intro p e s m below meth c A H locs ls hx hb hml hr ht hown hlocks hin hA hK hE hS hW hl
  have hown : s.vm.findClass RJ0 = some m.cls := hown
  have hW : zPD D A [] H := hW
  have hl : lv_has ls 2 [(0, .int x), (1, .int n)] := hl
  refine lv_iload_n hx hb dJ0_checkIndex_df160_0 rfl (lv_at hl 0 rfl) ?_
  refine lv_iload_n hx hb dJ0_checkIndex_df160_1 rfl (lv_at hl 1 rfl) ?_
  have hZs := hE.2.2.2.2.2.2.2
  have hsv := zSv_c (y 42)
  revert hZs hsv
  generalize zSv (y 42) = wv
  intro hZs hsv
  rcases hsv with rfl | ⟨w, rfl⟩
  · refine va_gets hx hb hZs hS hown (ht _ zm_520) (fun _ h => h) dJ0_checkIndex_df160_2 ?_
    refine zgo0_i (zrunS (As := [.int x, .int n, .null]) (rest := []) ⟨hx, hb, hml, hown, ht⟩ (pvXk3n l D y k hk x n x0 x1) (va_cwS 3 ht (zgS zm_521 zm_522 zm_523 zm_524) rfl rfl rfl (by decide +kernel) ⟨(Nat.le_of_ble_eq_true rfl), (Nat.le_of_ble_eq_true rfl)⟩) hK hE hS hA hW [] rfl rfl rfl hl.1 rfl (Nat.le_of_ble_eq_true rfl) dJ0_checkIndex_df160_5 (Nat.le_of_ble_eq_true rfl) (Nat.le_of_ble_eq_true rfl)) hS hA hW (fun r1 u H locs hw hW hS => ?_)
    refine lv_pop hx hb dJ0_checkIndex_df160_8 rfl ?_
    exact zret_v hx hb hr hlocks hS () trivial hW (Nat.le_of_ble_eq_true rfl) (Nat.le_of_ble_eq_true rfl) dJ0_checkIndex_df160_9
  · refine va_gets hx hb hZs hS hown (ht _ zm_520) (fun _ h => h) dJ0_checkIndex_df160_2 ?_
    refine zgo0_i (zrunS (As := [.int x, .int n, .ref w]) (rest := []) ⟨hx, hb, hml, hown, ht⟩ (pvXk3r l D y k hk x n x0 x1 w) (va_cwS 3 ht (zgS zm_521 zm_522 zm_523 zm_524) rfl rfl rfl (by decide +kernel) ⟨(Nat.le_of_ble_eq_true rfl), (Nat.le_of_ble_eq_true rfl)⟩) hK hE hS hA hW [] rfl rfl rfl hl.1 rfl (Nat.le_of_ble_eq_true rfl) dJ0_checkIndex_df160_5 (Nat.le_of_ble_eq_true rfl) (Nat.le_of_ble_eq_true rfl)) hS hA hW (fun r1 u H locs hw hW hS => ?_)
    refine lv_pop hx hb dJ0_checkIndex_df160_8 rfl ?_
    exact zret_v hx hb hr hlocks hS () trivial hW (Nat.le_of_ble_eq_true rfl) (Nat.le_of_ble_eq_true rfl) dJ0_checkIndex_df160_9
set_option maxHeartbeats 8000000 in
set_option maxRecDepth 100000 in
theorem pvXa1 (l : Launch) (D : va_G) (y : Nat → ClassId) (k : Nat) (hk : k < 7) (x : Int32) (hx1 : vp_in x (zsl.getD k 0)) (x0 : ¬ x < 0) (x1 : x < nI (zsl.getD k 0)) : zM l D y yJ1_charAt_3b067 (Cond.code yJ1_charAt_3b067 cJ1_charAt_3b067 2 (some .char) :: zT) (pvRm 2 43) [.ref (y (20 + k)), .int x] [] (zQi (S := Unit) D (fun r _ => r = (zsb.getD k []).getD x.toNatClampNeg 0) (fun _ => [])) := by
  refine zent (cc := cJ1_charAt_3b067) (maxL := 2) (ret := (some .char)) (by decide) (Nat.le_of_ble_eq_true rfl) ?_
  intro p e s m below meth c A H locs ls hx hb hml hr ht hown hlocks hin hA hK hE hS hW hl
  have hown : s.vm.findClass RJ1 = some m.cls := hown
  have hW : zPD D A [] H := hW
  have hl : lv_has ls 2 [(0, .ref (y (20 + k))), (1, .int x)] := hl
  refine lv_iload_n hx hb dJ1_charAt_3b067_0 rfl (lv_at hl 1 rfl) ?_
  refine lv_aload_n hx hb dJ1_charAt_3b067_1 rfl (lv_at hl 0 rfl) ?_
  refine va_tlen (v := nI (zsl.getD k 0)) hx hb (hE.1.1 k hk).2.2.2 hS rfl dJ1_charAt_3b067_2 ?_
  refine zgo0_v (zrunS (As := [.int x, .int (nI (zsl.getD k 0))]) (rest := []) ⟨hx, hb, hml, hown, ht⟩ (pvXk0 l D y k hk x (nI (zsl.getD k 0)) x0 x1) (va_cwS 2 ht (zgS zm_517 zm_518 zm_488 zm_519) rfl rfl rfl (by decide +kernel) ⟨(Nat.le_of_ble_eq_true rfl), (Nat.le_of_ble_eq_true rfl)⟩) hK hE hS hA hW [] rfl rfl rfl hl.1 rfl (Nat.le_of_ble_eq_true rfl) dJ1_charAt_3b067_3 (Nat.le_of_ble_eq_true rfl) (Nat.le_of_ble_eq_true rfl)) hS hA hW (fun u H locs hw hW hS => ?_)
  refine lv_aload_n hx hb dJ1_charAt_3b067_6 rfl (lv_at hl 0 rfl) ?_
  refine lv_iload_n hx hb dJ1_charAt_3b067_7 rfl (lv_at hl 1 rfl) ?_
  refine va_tb (v := .int ((zsb.getD k []).getD x.toNatClampNeg 0)) hx hb (hE.1.1 k hk).2.2.2 hS hx1 rfl dJ1_charAt_3b067_8 ?_
  refine lv_sipush (v := 255) hx hb dJ1_charAt_3b067_9 (by decide) ?_
  refine lv_iand hx hb dJ1_charAt_3b067_12 ?_
  have hj : x.toNatClampNeg < zsl.getD k 0 := Nat.not_le.mp (fun q => hx1 (Or.inr q))
  refine lv_i2c (v := (zsb.getD k []).getD x.toNatClampNeg 0) hx hb dJ1_charAt_3b067_13 (pvXb k hk _ hj).1 ?_
  exact zret_n (v := (zsb.getD k []).getD x.toNatClampNeg 0) hx hb hr hlocks hS () (pvXb k hk _ hj).2 rfl hW (Nat.le_of_ble_eq_true rfl) (Nat.le_of_ble_eq_true rfl) dJ1_charAt_3b067_14
set_option maxHeartbeats 8000000 in
set_option maxRecDepth 100000 in
theorem pvX2b (l : Launch) (D : va_G) (y : Nat → ClassId) (k : Nat) (hk : k < 7) (x : Int32) (hx1 : vp_in x (zsl.getD k 0)) (x0 : ¬ x < 0) (x1 : x < nI (zsl.getD k 0)) : zM l D y yJ0_charAt_5068e (Cond.code yJ0_charAt_5068e cJ0_charAt_5068e 2 (some .char) :: zT) pvrmX [.ref (y (10 + k)), .int x] [] (zQi (S := Unit) D (fun r _ => r = (zsb.getD k []).getD x.toNatClampNeg 0) (fun _ => [])) := by
  refine zent (cc := cJ0_charAt_5068e) (maxL := 2) (ret := (some .char)) (by decide) (Nat.le_of_ble_eq_true rfl) ?_
  intro p e s m below meth c A H locs ls hx hb hml hr ht hown hlocks hin hA hK hE hS hW hl
  have hown : s.vm.findClass RJ0 = some m.cls := hown
  have hW : zPD D A [] H := hW
  have hl : lv_has ls 2 [(0, .ref (y (10 + k))), (1, .int x)] := hl
  refine lv_aload_n hx hb dJ0_charAt_5068e_0 rfl (lv_at hl 0 rfl) ?_
  refine zgo0_i (zrunVS (As := []) (rest := []) ⟨hx, hb, hml, hown, ht⟩ (pvXi1 l D y k hk) (cwV 0 ht (zgV zm_509 zm_510 zm_511 zm_488 zm_512) rfl rfl rfl (by decide +kernel) ⟨(Nat.le_of_ble_eq_true rfl), (Nat.le_of_ble_eq_true rfl)⟩) hK hE hS hA hW [] rfl rfl k hk rfl rfl hl.1 rfl (Nat.le_of_ble_eq_true rfl) dJ0_charAt_5068e_1 (Nat.le_of_ble_eq_true rfl) (Nat.le_of_ble_eq_true rfl)) hS hA hW (fun r1 u H locs hw hW hS => ?_)
  have hw : r1 = 1 := hw
  subst hw
  refine lv_if_eq (tgt := 16) hx hb dJ0_charAt_5068e_4 (by decide) (fun c1 => absurd c1 (by decide)) (fun _ => ?_)
  refine lv_aload_n hx hb dJ0_charAt_5068e_7 rfl (lv_at hl 0 rfl) ?_
  refine vk_getf hx hb (hE.1.1 k hk).2.2.1 hS hown (ht _ zm_490) (fun _ h => h) dJ0_charAt_5068e_8 ?_
  refine lv_iload_n hx hb dJ0_charAt_5068e_11 rfl (lv_at hl 1 rfl) ?_
  refine zgo0_i (zrunS (As := [.ref (y (20 + k)), .int x]) (rest := []) ⟨hx, hb, hml, hown, ht⟩ (pvXa1 l D y k hk x hx1 x0 x1) (va_cwS 2 ht (zgS zm_513 zm_514 zm_515 zm_516) rfl rfl rfl (by decide +kernel) ⟨(Nat.le_of_ble_eq_true rfl), (Nat.le_of_ble_eq_true rfl)⟩) hK hE hS hA hW [] rfl rfl rfl hl.1 rfl (Nat.le_of_ble_eq_true rfl) dJ0_charAt_5068e_12 (Nat.le_of_ble_eq_true rfl) (Nat.le_of_ble_eq_true rfl)) hS hA hW (fun r1 u H locs hw hW hS => ?_)
  have hw : r1 = (zsb.getD k []).getD x.toNatClampNeg 0 := hw
  subst hw
  have hj : x.toNatClampNeg < zsl.getD k 0 := Nat.not_le.mp (fun q => hx1 (Or.inr q))
  exact zret_n (v := (zsb.getD k []).getD x.toNatClampNeg 0) hx hb hr hlocks hS () (pvXb k hk _ hj).2 rfl hW (Nat.le_of_ble_eq_true rfl) (Nat.le_of_ble_eq_true rfl) dJ0_charAt_5068e_15
set_option maxHeartbeats 8000000 in
set_option maxRecDepth 100000 in
theorem pvXe (l : Launch) (D : va_G) (y : Nat → ClassId) (k : Nat) (hk : k < 7) (x : Int32) (h0 : 0 ≤ x) (h1 : x < 128) : zM l D y yJ1_canEncode_9a6ad (Cond.code yJ1_canEncode_9a6ad cJ1_canEncode_9a6ad 1 (some .boolean) :: zT) (pvRm 0 0) [.int x] [] (zQi (S := Unit) D (fun r _ => r = 1) (fun _ => [])) := by
  refine zent (cc := cJ1_canEncode_9a6ad) (maxL := 1) (ret := (some .boolean)) (by decide) (Nat.le_of_ble_eq_true rfl) ?_
  intro p e s m below meth c A H locs ls hx hb hml hr ht hown hlocks hin hA hK hE hS hW hl
  have hown : s.vm.findClass RJ1 = some m.cls := hown
  have hW : zPD D A [] H := hW
  have hl : lv_has ls 1 [(0, .int x)] := hl
  refine lv_iload_n hx hb dJ1_canEncode_9a6ad_0 rfl (lv_at hl 0 rfl) ?_
  refine lv_if_lt (tgt := 15) hx hb dJ1_canEncode_9a6ad_1 (by decide) (fun c1 => absurd c1 (fun z => by have a := (zi_le _ _).mp h0; have b := (zi_lt _ _).mp z; omega)) (fun _ => ?_)
  refine lv_iload_n hx hb dJ1_canEncode_9a6ad_4 rfl (lv_at hl 0 rfl) ?_
  refine lv_sipush (v := 255) hx hb dJ1_canEncode_9a6ad_5 (by decide) ?_
  refine lv_icmp_gt (tgt := 15) hx hb dJ1_canEncode_9a6ad_8 (by decide) (fun c1 => absurd c1 (fun z => by have a := (zi_lt _ _).mp h1; have b := (zi_lt _ _).mp z; have e1 : (128 : Int32).toInt = 128 := (by decide); have e2 : (255 : Int32).toInt = 255 := (by decide); omega)) (fun _ => ?_)
  refine lv_iconst (v := 1) hx hb dJ1_canEncode_9a6ad_11 (by decide) ?_
  refine lv_goto (tgt := 16) hx hb dJ1_canEncode_9a6ad_12 (by decide) ?_
  exact zret_n (v := 1) hx hb hr hlocks hS () rfl rfl hW (Nat.le_of_ble_eq_true rfl) (Nat.le_of_ble_eq_true rfl) dJ1_canEncode_9a6ad_16
theorem pvixs (c : Int32) (L : List Int32) (j : Nat) (h : j < L.length) : pvixF c (L.drop j) j = if L.getD j 0 = c then nI j else pvixF c (L.drop (j + 1)) (j + 1) := by
  rw [List.drop_eq_getElem_cons h, List.getD_eq_getElem?_getD, List.getElem?_eq_getElem h]
  rfl
set_option maxHeartbeats 8000000 in
set_option maxRecDepth 100000 in
theorem pvXh (l : Launch) (D : va_G) (y : Nat → ClassId) (k : Nat) (hk : k < 7) (x : Int32) (h0 : 0 ≤ x) (h1 : x < 128) : zM l D y yJ1_indexOfChar_4cfef (Cond.code yJ1_indexOfChar_4cfef cJ1_indexOfChar_4cfef 6 (some .int) :: zT) (pvRm 0 0) [.ref (y (20 + k)), .int x, .int 0, .int (nI (zsl.getD k 0))] [] (zQi (S := Unit) D (fun r _ => r = pvixF x (zsb.getD k []) 0) (fun _ => [])) := by
  refine zent (cc := cJ1_indexOfChar_4cfef) (maxL := 6) (ret := (some .int)) (by decide) (Nat.le_of_ble_eq_true rfl) ?_
  intro p e s m below meth c A H locs ls hx hb hml hr ht hown hlocks hin hA hK hE hS hW hl
  have hown : s.vm.findClass RJ1 = some m.cls := hown
  have hW : zPD D A [] H := hW
  have hl : lv_has ls 6 [(0, .ref (y (20 + k))), (1, .int x), (2, .int 0), (3, .int (nI (zsl.getD k 0)))] := hl
  have hL := pvXl k hk
  refine lv_iload_n hx hb dJ1_indexOfChar_4cfef_0 rfl (lv_at hl 1 rfl) ?_
  refine lv_i2b (v := x) hx hb dJ1_indexOfChar_4cfef_1 (pvXi x h0 h1) ?_
  refine lv_istore (lv' := [(4, .int x), (0, .ref (y (20 + k))), (1, .int x), (2, .int 0), (3, .int (nI (zsl.getD k 0)))]) hx hb dJ1_indexOfChar_4cfef_2 hl (by decide) rfl (fun ls hl => ?_)
  refine lv_iload_n hx hb dJ1_indexOfChar_4cfef_4 rfl (lv_at hl 3 rfl) ?_
  refine lv_istore (lv' := [(5, .int 0), (4, .int x), (0, .ref (y (20 + k))), (1, .int x), (2, .int 0), (3, .int (nI (zsl.getD k 0)))]) hx hb dJ1_indexOfChar_4cfef_5 hl (by decide) rfl (fun ls hl => ?_)
  have key : ∀ (n j : Nat) (ls : Array Slot), j + n = zsl.getD k 0 → pvixF x ((zsb.getD k []).drop j) j = pvixF x (zsb.getD k []) 0 → lv_has ls 6 [(5, .int (nI j)), (4, .int x), (0, .ref (y (20 + k))), (1, .int x), (2, .int 0), (3, .int (nI (zsl.getD k 0)))] → W p l e (pvRm 0 0) s m ([.ref (y (20 + k)), .int x, .int 0, .int (nI (zsl.getD k 0))] : List Value).toArray below meth c H locs 0 0 (MQ below (zQi (S := Unit) D (fun r _ => r = pvixF x (zsb.getD k []) 0) (fun _ => []) A) ([.ref (y (20 + k)), .int x, .int 0, .int (nI (zsl.getD k 0))] : List Value).toArray s 0 0 A) (F0 m 7 ls []) := by
    intro n
    induction n with
    | zero =>
      intro j ls hj hp hl
      refine lv_iload hx hb dJ1_indexOfChar_4cfef_7 (lv_at hl 0 rfl) ?_
      refine lv_iload_n hx hb dJ1_indexOfChar_4cfef_9 rfl (lv_at hl 5 rfl) ?_
      refine lv_icmp_ge (tgt := 31) hx hb dJ1_indexOfChar_4cfef_10 (by decide) (fun _ => ?_) (fun c1 => absurd (by rw [← hj, Nat.add_zero, zi_le]; exact Int.le_refl _) c1)
      refine lv_iconst (v := -1) hx hb dJ1_indexOfChar_4cfef_31 (by decide) ?_
      refine zret_i (v := -1) hx hb hr hlocks hS () ?_ hW (Nat.le_of_ble_eq_true rfl) (Nat.le_of_ble_eq_true rfl) dJ1_indexOfChar_4cfef_32
      rw [← hp, List.drop_eq_nil_of_le (by omega)]
      rfl
    | succ n ih =>
      intro j ls hj hp hl
      have hj2 : j < zsl.getD k 0 := by omega
      have hin : vp_in (nI j) (zsl.getD k 0) := vp_in_iff.mpr (by rw [nI_toInt (by omega)]; omega)
      refine lv_iload hx hb dJ1_indexOfChar_4cfef_7 (lv_at hl 0 rfl) ?_
      refine lv_iload_n hx hb dJ1_indexOfChar_4cfef_9 rfl (lv_at hl 5 rfl) ?_
      refine lv_icmp_ge (tgt := 31) hx hb dJ1_indexOfChar_4cfef_10 (by decide) (fun c1 => absurd c1 (fun z => by have a := (zi_le _ _).mp z; rw [nI_toInt (by omega), nI_toInt (by omega)] at a; omega)) (fun _ => ?_)
      refine lv_aload_n hx hb dJ1_indexOfChar_4cfef_13 rfl (lv_at hl 2 rfl) ?_
      refine lv_iload hx hb dJ1_indexOfChar_4cfef_14 (lv_at hl 0 rfl) ?_
      have e3 : (nI j).toNatClampNeg = j := nI_clamp (by omega)
      refine va_tb (v := .int ((zsb.getD k []).getD j 0)) hx hb (hE.1.1 k hk).2.2.2 hS hin (by rw [e3]) dJ1_indexOfChar_4cfef_16 ?_
      refine lv_iload hx hb dJ1_indexOfChar_4cfef_17 (lv_at hl 1 rfl) ?_
      rw [pvixs x _ j (by omega)] at hp
      refine lv_icmp_ne (tgt := 25) hx hb dJ1_indexOfChar_4cfef_19 (by decide) (fun c1 => ?_) (fun c1 => ?_)
      · rw [if_neg c1] at hp
        refine lv_iinc (k := 0) (v := nI (j + 1)) (lv' := [(5, .int (nI (j + 1))), (4, .int x), (0, .ref (y (20 + k))), (1, .int x), (2, .int 0), (3, .int (nI (zsl.getD k 0)))]) hx hb dJ1_indexOfChar_4cfef_25 hl rfl (by rw [nI_succ]; rfl) (by decide) rfl (fun ls hl => ?_)
        refine lv_goto (tgt := 7) hx hb dJ1_indexOfChar_4cfef_28 (by decide) ?_
        exact ih (j + 1) ls (by omega) hp hl
      · rw [if_pos c1] at hp
        refine lv_iload hx hb dJ1_indexOfChar_4cfef_22 (lv_at hl 0 rfl) ?_
        exact zret_i (v := nI j) hx hb hr hlocks hS () hp hW (Nat.le_of_ble_eq_true rfl) (Nat.le_of_ble_eq_true rfl) dJ1_indexOfChar_4cfef_24
  exact key (zsl.getD k 0) 0 ls (by omega) rfl hl
set_option maxHeartbeats 8000000 in
set_option maxRecDepth 100000 in
theorem pvXg (l : Launch) (D : va_G) (y : Nat → ClassId) (k : Nat) (hk : k < 7) (x : Int32) (h0 : 0 ≤ x) (h1 : x < 128) : zM l D y yJ1_indexOf_4cfef (Cond.code yJ1_indexOf_4cfef cJ1_indexOf_4cfef 4 (some .int) :: zT) (pvRm 1 25) [.ref (y (20 + k)), .int x, .int 0, .int (nI (zsl.getD k 0))] [] (zQi (S := Unit) D (fun r _ => r = pvixF x (zsb.getD k []) 0) (fun _ => [])) := by
  refine zent (cc := cJ1_indexOf_4cfef) (maxL := 4) (ret := (some .int)) (by decide) (Nat.le_of_ble_eq_true rfl) ?_
  intro p e s m below meth c A H locs ls hx hb hml hr ht hown hlocks hin hA hK hE hS hW hl
  have hown : s.vm.findClass RJ1 = some m.cls := hown
  have hW : zPD D A [] H := hW
  have hl : lv_has ls 4 [(0, .ref (y (20 + k))), (1, .int x), (2, .int 0), (3, .int (nI (zsl.getD k 0)))] := hl
  have hL := pvXl k hk
  refine lv_iload_n hx hb dJ1_indexOf_4cfef_0 rfl (lv_at hl 1 rfl) ?_
  refine zgo0_i (zrunS (As := [.int x]) (rest := []) ⟨hx, hb, hml, hown, ht⟩ (pvXe l D y k hk x h0 h1) (va_cwS 1 ht (zgS zm_588 zm_589 zm_515 zm_590) rfl rfl rfl (by decide +kernel) ⟨(Nat.le_of_ble_eq_true rfl), (Nat.le_of_ble_eq_true rfl)⟩) hK hE hS hA hW [] rfl rfl rfl hl.1 rfl (Nat.le_of_ble_eq_true rfl) dJ1_indexOf_4cfef_1 (Nat.le_of_ble_eq_true rfl) (Nat.le_of_ble_eq_true rfl)) hS hA hW (fun r1 u H locs hw hW hS => ?_)
  have hw : r1 = 1 := hw
  subst hw
  refine lv_if_ne (tgt := 9) hx hb dJ1_indexOf_4cfef_4 (by decide) (fun _ => ?_) (fun c1 => absurd c1 (by decide))
  refine lv_iload_n hx hb dJ1_indexOf_4cfef_9 rfl (lv_at hl 2 rfl) ?_
  refine lv_iconst (v := 0) hx hb dJ1_indexOf_4cfef_10 (by decide) ?_
  refine va_mmax hx hb (by rw [hml]; exact hl.1.symm) hown (ht _ zm_586) (ht _ zm_90) (ht _ zm_91) (ht _ zm_92) (Nat.le_of_ble_eq_true rfl) (Nat.le_of_ble_eq_true rfl) (Nat.le_of_ble_eq_true rfl) (Nat.le_of_ble_eq_true rfl) dJ1_indexOf_4cfef_11 ?_
  refine ztop (show Value.int (if (0 : Int32) < 0 then 0 else 0) = Value.int 0 from rfl) ?_
  refine lv_istore_n (lv' := [(2, .int 0), (0, .ref (y (20 + k))), (1, .int x), (3, .int (nI (zsl.getD k 0)))]) hx hb dJ1_indexOf_4cfef_14 rfl hl (by decide) rfl (fun ls hl => ?_)
  refine lv_iload_n hx hb dJ1_indexOf_4cfef_15 rfl (lv_at hl 3 rfl) ?_
  refine lv_aload_n hx hb dJ1_indexOf_4cfef_16 rfl (lv_at hl 1 rfl) ?_
  refine va_tlen (v := nI (zsl.getD k 0)) hx hb (hE.1.1 k hk).2.2.2 hS rfl dJ1_indexOf_4cfef_17 ?_
  refine va_mmin hx hb (by rw [hml]; exact hl.1.symm) hown (ht _ zm_587) (ht _ zm_297) (ht _ zm_91) (ht _ zm_298) (Nat.le_of_ble_eq_true rfl) (Nat.le_of_ble_eq_true rfl) (Nat.le_of_ble_eq_true rfl) (Nat.le_of_ble_eq_true rfl) dJ1_indexOf_4cfef_18 ?_
  refine ztop (show Value.int (if nI (zsl.getD k 0) < nI (zsl.getD k 0) then nI (zsl.getD k 0) else nI (zsl.getD k 0)) = Value.int (nI (zsl.getD k 0)) from by rw [ite_self]) ?_
  refine lv_istore_n (lv' := [(3, .int (nI (zsl.getD k 0))), (2, .int 0), (0, .ref (y (20 + k))), (1, .int x)]) hx hb dJ1_indexOf_4cfef_21 rfl hl (by decide) rfl (fun ls hl => ?_)
  refine lv_iload_n hx hb dJ1_indexOf_4cfef_22 rfl (lv_at hl 1 rfl) ?_
  refine lv_iload_n hx hb dJ1_indexOf_4cfef_23 rfl (lv_at hl 0 rfl) ?_
  refine lv_icmp_lt (tgt := 29) hx hb dJ1_indexOf_4cfef_24 (by decide) (fun _ => ?_) (fun c1 => ?_)
  · refine lv_aload_n hx hb dJ1_indexOf_4cfef_29 rfl (lv_at hl 2 rfl) ?_
    refine lv_iload_n hx hb dJ1_indexOf_4cfef_30 rfl (lv_at hl 3 rfl) ?_
    refine lv_iload_n hx hb dJ1_indexOf_4cfef_31 rfl (lv_at hl 1 rfl) ?_
    refine lv_iload_n hx hb dJ1_indexOf_4cfef_32 rfl (lv_at hl 0 rfl) ?_
    refine zgo0_i (zrunS (As := [.ref (y (20 + k)), .int x, .int 0, .int (nI (zsl.getD k 0))]) (rest := []) ⟨hx, hb, hml, hown, ht⟩ (pvXh l D y k hk x h0 h1) (va_cwS 4 ht (zgS zm_591 zm_592 zm_515 zm_593) rfl rfl rfl (by decide +kernel) ⟨(Nat.le_of_ble_eq_true rfl), (Nat.le_of_ble_eq_true rfl)⟩) hK hE hS hA hW [] rfl rfl rfl hl.1 rfl (Nat.le_of_ble_eq_true rfl) dJ1_indexOf_4cfef_33 (Nat.le_of_ble_eq_true rfl) (Nat.le_of_ble_eq_true rfl)) hS hA hW (fun r1 u H locs hw hW hS => ?_)
    have hw : r1 = pvixF x (zsb.getD k []) 0 := hw
    subst hw
    exact zret_i (v := pvixF x (zsb.getD k []) 0) hx hb hr hlocks hS () rfl hW (Nat.le_of_ble_eq_true rfl) (Nat.le_of_ble_eq_true rfl) dJ1_indexOf_4cfef_36
  · refine lv_iconst (v := -1) hx hb dJ1_indexOf_4cfef_27 (by decide) ?_
    refine zret_i (v := -1) hx hb hr hlocks hS () ?_ hW (Nat.le_of_ble_eq_true rfl) (Nat.le_of_ble_eq_true rfl) dJ1_indexOf_4cfef_28
    have h9 : zsl.getD k 0 = 0 := Classical.not_not.mp (fun z => c1 ((pvXo k hk).mpr z))
    rw [List.eq_nil_of_length_eq_zero (by omega : (zsb.getD k []).length = 0)]
    rfl
set_option maxHeartbeats 8000000 in
set_option maxRecDepth 100000 in
theorem pvXf (l : Launch) (D : va_G) (y : Nat → ClassId) (k : Nat) (hk : k < 7) (x : Int32) (h0 : 0 ≤ x) (h1 : x < 128) : zM l D y yJ0_indexOf_7cf53 (Cond.code yJ0_indexOf_7cf53 cJ0_indexOf_7cf53 3 (some .int) :: zT) (pvRm 2 50) [.ref (y (10 + k)), .int x, .int 0] [] (zQi (S := Unit) D (fun r _ => r = pvixF x (zsb.getD k []) 0) (fun _ => [])) := by
  refine zent (cc := cJ0_indexOf_7cf53) (maxL := 3) (ret := (some .int)) (by decide) (Nat.le_of_ble_eq_true rfl) ?_
  intro p e s m below meth c A H locs ls hx hb hml hr ht hown hlocks hin hA hK hE hS hW hl
  have hown : s.vm.findClass RJ0 = some m.cls := hown
  have hW : zPD D A [] H := hW
  have hl : lv_has ls 3 [(0, .ref (y (10 + k))), (1, .int x), (2, .int 0)] := hl
  refine lv_aload_n hx hb dJ0_indexOf_7cf53_0 rfl (lv_at hl 0 rfl) ?_
  refine zgo0_i (zrunVS (As := []) (rest := []) ⟨hx, hb, hml, hown, ht⟩ (pvXi1 l D y k hk) (cwV 0 ht (zgV zm_509 zm_510 zm_511 zm_488 zm_512) rfl rfl rfl (by decide +kernel) ⟨(Nat.le_of_ble_eq_true rfl), (Nat.le_of_ble_eq_true rfl)⟩) hK hE hS hA hW [] rfl rfl k hk rfl rfl hl.1 rfl (Nat.le_of_ble_eq_true rfl) dJ0_indexOf_7cf53_1 (Nat.le_of_ble_eq_true rfl) (Nat.le_of_ble_eq_true rfl)) hS hA hW (fun r1 u H locs hw hW hS => ?_)
  have hw : r1 = 1 := hw
  subst hw
  refine lv_if_eq (tgt := 23) hx hb dJ0_indexOf_7cf53_4 (by decide) (fun c1 => absurd c1 (by decide)) (fun _ => ?_)
  refine lv_aload_n hx hb dJ0_indexOf_7cf53_7 rfl (lv_at hl 0 rfl) ?_
  refine vk_getf hx hb (hE.1.1 k hk).2.2.1 hS hown (ht _ zm_490) (fun _ h => h) dJ0_indexOf_7cf53_8 ?_
  refine lv_iload_n hx hb dJ0_indexOf_7cf53_11 rfl (lv_at hl 1 rfl) ?_
  refine lv_iload_n hx hb dJ0_indexOf_7cf53_12 rfl (lv_at hl 2 rfl) ?_
  refine lv_aload_n hx hb dJ0_indexOf_7cf53_13 rfl (lv_at hl 0 rfl) ?_
  refine zgo0_i (zrunVS (As := []) (rest := [.int 0, .int x, .ref (y (20 + k))]) ⟨hx, hb, hml, hown, ht⟩ (pvX0a l D y k hk) (cwV 0 ht (zgV zm_582 zm_496 zm_497 zm_488 zm_498) rfl rfl rfl (by decide +kernel) ⟨(Nat.le_of_ble_eq_true rfl), (Nat.le_of_ble_eq_true rfl)⟩) hK hE hS hA hW [] rfl rfl k hk rfl rfl hl.1 rfl (Nat.le_of_ble_eq_true rfl) dJ0_indexOf_7cf53_14 (Nat.le_of_ble_eq_true rfl) (Nat.le_of_ble_eq_true rfl)) hS hA hW (fun r1 u H locs hw hW hS => ?_)
  have hw : r1 = nI (zsl.getD k 0) := hw
  subst hw
  refine zgo0_i (zrunS (As := [.ref (y (20 + k)), .int x, .int 0, .int (nI (zsl.getD k 0))]) (rest := []) ⟨hx, hb, hml, hown, ht⟩ (pvXg l D y k hk x h0 h1) (va_cwS 4 ht (zgS zm_583 zm_584 zm_515 zm_585) rfl rfl rfl (by decide +kernel) ⟨(Nat.le_of_ble_eq_true rfl), (Nat.le_of_ble_eq_true rfl)⟩) hK hE hS hA hW [] rfl rfl rfl hl.1 rfl (Nat.le_of_ble_eq_true rfl) dJ0_indexOf_7cf53_17 (Nat.le_of_ble_eq_true rfl) (Nat.le_of_ble_eq_true rfl)) hS hA hW (fun r1 u H locs hw hW hS => ?_)
  have hw : r1 = pvixF x (zsb.getD k []) 0 := hw
  subst hw
  refine lv_goto (tgt := 36) hx hb dJ0_indexOf_7cf53_20 (by decide) ?_
  exact zret_i (v := pvixF x (zsb.getD k []) 0) hx hb hr hlocks hS () rfl hW (Nat.le_of_ble_eq_true rfl) (Nat.le_of_ble_eq_true rfl) dJ0_indexOf_7cf53_36
set_option maxHeartbeats 8000000 in
set_option maxRecDepth 100000 in
theorem pvX3 (l : Launch) (D : va_G) (y : Nat → ClassId) (k : Nat) (hk : k < 7) (x : Int32) (h0 : 0 ≤ x) (h1 : x < 128) : zM l D y yJ0_indexOf_0f7a4 (Cond.code yJ0_indexOf_0f7a4 cJ0_indexOf_0f7a4 2 (some .int) :: zT) pvrmX [.ref (y (10 + k)), .int x] [] (zQi (S := Unit) D (fun r _ => r = pvixF x (zsb.getD k []) 0) (fun _ => [])) := by
  refine zent (cc := cJ0_indexOf_0f7a4) (maxL := 2) (ret := (some .int)) (by decide) (Nat.le_of_ble_eq_true rfl) ?_
  intro p e s m below meth c A H locs ls hx hb hml hr ht hown hlocks hin hA hK hE hS hW hl
  have hown : s.vm.findClass RJ0 = some m.cls := hown
  have hW : zPD D A [] H := hW
  have hl : lv_has ls 2 [(0, .ref (y (10 + k))), (1, .int x)] := hl
  refine lv_aload_n hx hb dJ0_indexOf_0f7a4_0 rfl (lv_at hl 0 rfl) ?_
  refine lv_iload_n hx hb dJ0_indexOf_0f7a4_1 rfl (lv_at hl 1 rfl) ?_
  refine lv_iconst (v := 0) hx hb dJ0_indexOf_0f7a4_2 (by decide) ?_
  refine zgo0_i (zrunVS (As := [.int x, .int 0]) (rest := []) ⟨hx, hb, hml, hown, ht⟩ (pvXf l D y k hk x h0 h1) (cwV 2 ht (zgV zm_578 zm_579 zm_580 zm_488 zm_581) rfl rfl rfl (by decide +kernel) ⟨(Nat.le_of_ble_eq_true rfl), (Nat.le_of_ble_eq_true rfl)⟩) hK hE hS hA hW [] rfl rfl k hk rfl rfl hl.1 rfl (Nat.le_of_ble_eq_true rfl) dJ0_indexOf_0f7a4_3 (Nat.le_of_ble_eq_true rfl) (Nat.le_of_ble_eq_true rfl)) hS hA hW (fun r1 u H locs hw hW hS => ?_)
  have hw : r1 = pvixF x (zsb.getD k []) 0 := hw
  subst hw
  exact zret_i (v := pvixF x (zsb.getD k []) 0) hx hb hr hlocks hS () rfl hW (Nat.le_of_ble_eq_true rfl) (Nat.le_of_ble_eq_true rfl) dJ0_indexOf_0f7a4_6
theorem pvX2 (l : Launch) (D : va_G) (y : Nat → ClassId) (k : Nat) (hk : k < 7) (x : Int32) (hx : vp_in x (zsl.getD k 0)) : zM l D y yJ0_charAt_5068e (Cond.code yJ0_charAt_5068e cJ0_charAt_5068e 2 (some .char) :: zT) pvrmX [.ref (y (10 + k)), .int x] [] (zQi (S := Unit) D (fun r _ => r = (zsb.getD k []).getD x.toNatClampNeg 0) (fun _ => [])) := by
  have h := vp_in_iff.mp hx
  have hl := (pvXl k hk).2
  exact pvX2b l D y k hk x hx (fun z => by have a := (zi_lt _ _).mp z; have e0 : (0 : Int32).toInt = 0 := (by decide); omega) ((zi_lt _ _).mpr (by rw [nI_toInt (by omega)]; omega))
