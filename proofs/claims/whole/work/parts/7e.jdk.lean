/-! the methods of String, out of their bytes -/
theorem d_JString_isLatin1_0 : decode b_JString_isLatin1 0 = .ok (.getstatic 38, 3) := by decide +kernel
theorem d_JString_isLatin1_3 : decode b_JString_isLatin1 3 = .ok (.ifCond .eq 14, 3) := by decide +kernel
theorem d_JString_isLatin1_6 : decode b_JString_isLatin1 6 = .ok (.aload_n 0, 1) := by decide +kernel
theorem d_JString_isLatin1_7 : decode b_JString_isLatin1 7 = .ok (.getfield 15, 3) := by decide +kernel
theorem d_JString_isLatin1_10 : decode b_JString_isLatin1 10 = .ok (.ifCond .ne 7, 3) := by decide +kernel
theorem d_JString_isLatin1_13 : decode b_JString_isLatin1 13 = .ok (.iconst 1, 1) := by decide +kernel
theorem d_JString_isLatin1_14 : decode b_JString_isLatin1 14 = .ok (.goto 4, 3) := by decide +kernel
theorem d_JString_isLatin1_17 : decode b_JString_isLatin1 17 = .ok (.iconst 0, 1) := by decide +kernel
theorem d_JString_isLatin1_18 : decode b_JString_isLatin1 18 = .ok (.ireturn, 1) := by decide +kernel
theorem d_JString_coder_0 : decode b_JString_coder 0 = .ok (.getstatic 38, 3) := by decide +kernel
theorem d_JString_coder_3 : decode b_JString_coder 3 = .ok (.ifCond .eq 10, 3) := by decide +kernel
theorem d_JString_coder_6 : decode b_JString_coder 6 = .ok (.aload_n 0, 1) := by decide +kernel
theorem d_JString_coder_7 : decode b_JString_coder 7 = .ok (.getfield 15, 3) := by decide +kernel
theorem d_JString_coder_10 : decode b_JString_coder 10 = .ok (.goto 4, 3) := by decide +kernel
theorem d_JString_coder_13 : decode b_JString_coder 13 = .ok (.iconst 1, 1) := by decide +kernel
theorem d_JString_coder_14 : decode b_JString_coder 14 = .ok (.ireturn, 1) := by decide +kernel
theorem d_JString_length_0 : decode b_JString_length 0 = .ok (.aload_n 0, 1) := by decide +kernel
theorem d_JString_length_1 : decode b_JString_length 1 = .ok (.getfield 9, 3) := by decide +kernel
theorem d_JString_length_4 : decode b_JString_length 4 = .ok (.arraylength, 1) := by decide +kernel
theorem d_JString_length_5 : decode b_JString_length 5 = .ok (.aload_n 0, 1) := by decide +kernel
theorem d_JString_length_6 : decode b_JString_length 6 = .ok (.invokevirtual 335, 3) := by decide +kernel
theorem d_JString_length_9 : decode b_JString_length 9 = .ok (.ishr, 1) := by decide +kernel
theorem d_JString_length_10 : decode b_JString_length 10 = .ok (.ireturn, 1) := by decide +kernel
theorem d_JString_charAt_0 : decode b_JString_charAt 0 = .ok (.aload_n 0, 1) := by decide +kernel
theorem d_JString_charAt_1 : decode b_JString_charAt 1 = .ok (.invokevirtual 492, 3) := by decide +kernel
theorem d_JString_charAt_4 : decode b_JString_charAt 4 = .ok (.ifCond .eq 12, 3) := by decide +kernel
theorem d_JString_charAt_7 : decode b_JString_charAt 7 = .ok (.aload_n 0, 1) := by decide +kernel
theorem d_JString_charAt_8 : decode b_JString_charAt 8 = .ok (.getfield 9, 3) := by decide +kernel
theorem d_JString_charAt_11 : decode b_JString_charAt 11 = .ok (.iload_n 1, 1) := by decide +kernel
theorem d_JString_charAt_12 : decode b_JString_charAt 12 = .ok (.invokestatic 495, 3) := by decide +kernel
theorem d_JString_charAt_15 : decode b_JString_charAt 15 = .ok (.ireturn, 1) := by decide +kernel
theorem d_JLatin_charAt_0 : decode b_JLatin_charAt 0 = .ok (.iload_n 1, 1) := by decide +kernel
theorem d_JLatin_charAt_1 : decode b_JLatin_charAt 1 = .ok (.aload_n 0, 1) := by decide +kernel
theorem d_JLatin_charAt_2 : decode b_JLatin_charAt 2 = .ok (.arraylength, 1) := by decide +kernel
theorem d_JLatin_charAt_3 : decode b_JLatin_charAt 3 = .ok (.invokestatic 9, 3) := by decide +kernel
theorem d_JLatin_charAt_6 : decode b_JLatin_charAt 6 = .ok (.aload_n 0, 1) := by decide +kernel
theorem d_JLatin_charAt_7 : decode b_JLatin_charAt 7 = .ok (.iload_n 1, 1) := by decide +kernel
theorem d_JLatin_charAt_8 : decode b_JLatin_charAt 8 = .ok (.baload, 1) := by decide +kernel
theorem d_JLatin_charAt_9 : decode b_JLatin_charAt 9 = .ok (.sipush 255, 3) := by decide +kernel
theorem d_JLatin_charAt_12 : decode b_JLatin_charAt 12 = .ok (.iand, 1) := by decide +kernel
theorem d_JLatin_charAt_13 : decode b_JLatin_charAt 13 = .ok (.i2c, 1) := by decide +kernel
theorem d_JLatin_charAt_14 : decode b_JLatin_charAt 14 = .ok (.ireturn, 1) := by decide +kernel
theorem d_JString_checkIndex_0 : decode b_JString_checkIndex 0 = .ok (.iload_n 0, 1) := by decide +kernel
theorem d_JString_checkIndex_1 : decode b_JString_checkIndex 1 = .ok (.iload_n 1, 1) := by decide +kernel
theorem d_JString_checkIndex_2 : decode b_JString_checkIndex 2 = .ok (.getstatic 1053, 3) := by decide +kernel
theorem d_JString_checkIndex_5 : decode b_JString_checkIndex 5 = .ok (.invokestatic 1059, 3) := by decide +kernel
theorem d_JString_checkIndex_8 : decode b_JString_checkIndex 8 = .ok (.pop, 1) := by decide +kernel
theorem d_JString_checkIndex_9 : decode b_JString_checkIndex 9 = .ok (.return_, 1) := by decide +kernel
theorem d_JPre_checkIndex_0 : decode b_JPre_checkIndex 0 = .ok (.iload_n 0, 1) := by decide +kernel
theorem d_JPre_checkIndex_1 : decode b_JPre_checkIndex 1 = .ok (.ifCond .lt 8, 3) := by decide +kernel
theorem d_JPre_checkIndex_4 : decode b_JPre_checkIndex 4 = .ok (.iload_n 0, 1) := by decide +kernel
theorem d_JPre_checkIndex_5 : decode b_JPre_checkIndex 5 = .ok (.iload_n 1, 1) := by decide +kernel
theorem d_JPre_checkIndex_6 : decode b_JPre_checkIndex 6 = .ok (.if_icmp .lt 10, 3) := by decide +kernel
theorem d_JPre_checkIndex_16 : decode b_JPre_checkIndex 16 = .ok (.iload_n 0, 1) := by decide +kernel
theorem d_JPre_checkIndex_17 : decode b_JPre_checkIndex 17 = .ok (.ireturn, 1) := by decide +kernel
theorem d_JString_indexOf_0 : decode b_JString_indexOf 0 = .ok (.aload_n 0, 1) := by decide +kernel
theorem d_JString_indexOf_1 : decode b_JString_indexOf 1 = .ok (.iload_n 1, 1) := by decide +kernel
theorem d_JString_indexOf_2 : decode b_JString_indexOf 2 = .ok (.iconst 0, 1) := by decide +kernel
theorem d_JString_indexOf_3 : decode b_JString_indexOf 3 = .ok (.invokevirtual 633, 3) := by decide +kernel
theorem d_JString_indexOf_6 : decode b_JString_indexOf 6 = .ok (.ireturn, 1) := by decide +kernel
theorem d_JString_indexOf2_0 : decode b_JString_indexOf2 0 = .ok (.aload_n 0, 1) := by decide +kernel
theorem d_JString_indexOf2_1 : decode b_JString_indexOf2 1 = .ok (.invokevirtual 492, 3) := by decide +kernel
theorem d_JString_indexOf2_4 : decode b_JString_indexOf2 4 = .ok (.ifCond .eq 19, 3) := by decide +kernel
theorem d_JString_indexOf2_7 : decode b_JString_indexOf2 7 = .ok (.aload_n 0, 1) := by decide +kernel
theorem d_JString_indexOf2_8 : decode b_JString_indexOf2 8 = .ok (.getfield 9, 3) := by decide +kernel
theorem d_JString_indexOf2_11 : decode b_JString_indexOf2 11 = .ok (.iload_n 1, 1) := by decide +kernel
theorem d_JString_indexOf2_12 : decode b_JString_indexOf2 12 = .ok (.iload_n 2, 1) := by decide +kernel
theorem d_JString_indexOf2_13 : decode b_JString_indexOf2 13 = .ok (.aload_n 0, 1) := by decide +kernel
theorem d_JString_indexOf2_14 : decode b_JString_indexOf2 14 = .ok (.invokevirtual 505, 3) := by decide +kernel
theorem d_JString_indexOf2_17 : decode b_JString_indexOf2 17 = .ok (.invokestatic 637, 3) := by decide +kernel
theorem d_JString_indexOf2_20 : decode b_JString_indexOf2 20 = .ok (.goto 16, 3) := by decide +kernel
theorem d_JString_indexOf2_36 : decode b_JString_indexOf2 36 = .ok (.ireturn, 1) := by decide +kernel
theorem d_JLatin_indexOf_0 : decode b_JLatin_indexOf 0 = .ok (.iload_n 1, 1) := by decide +kernel
theorem d_JLatin_indexOf_1 : decode b_JLatin_indexOf 1 = .ok (.invokestatic 88, 3) := by decide +kernel
theorem d_JLatin_indexOf_4 : decode b_JLatin_indexOf 4 = .ok (.ifCond .ne 5, 3) := by decide +kernel
theorem d_JLatin_indexOf_7 : decode b_JLatin_indexOf 7 = .ok (.iconst (-1), 1) := by decide +kernel
theorem d_JLatin_indexOf_8 : decode b_JLatin_indexOf 8 = .ok (.ireturn, 1) := by decide +kernel
theorem d_JLatin_indexOf_9 : decode b_JLatin_indexOf 9 = .ok (.iload_n 2, 1) := by decide +kernel
theorem d_JLatin_indexOf_10 : decode b_JLatin_indexOf 10 = .ok (.iconst 0, 1) := by decide +kernel
theorem d_JLatin_indexOf_11 : decode b_JLatin_indexOf 11 = .ok (.invokestatic 92, 3) := by decide +kernel
theorem d_JLatin_indexOf_14 : decode b_JLatin_indexOf 14 = .ok (.istore_n 2, 1) := by decide +kernel
theorem d_JLatin_indexOf_15 : decode b_JLatin_indexOf 15 = .ok (.iload_n 3, 1) := by decide +kernel
theorem d_JLatin_indexOf_16 : decode b_JLatin_indexOf 16 = .ok (.aload_n 0, 1) := by decide +kernel
theorem d_JLatin_indexOf_17 : decode b_JLatin_indexOf 17 = .ok (.arraylength, 1) := by decide +kernel
theorem d_JLatin_indexOf_18 : decode b_JLatin_indexOf 18 = .ok (.invokestatic 38, 3) := by decide +kernel
theorem d_JLatin_indexOf_21 : decode b_JLatin_indexOf 21 = .ok (.istore_n 3, 1) := by decide +kernel
theorem d_JLatin_indexOf_22 : decode b_JLatin_indexOf 22 = .ok (.iload_n 2, 1) := by decide +kernel
theorem d_JLatin_indexOf_23 : decode b_JLatin_indexOf 23 = .ok (.iload_n 3, 1) := by decide +kernel
theorem d_JLatin_indexOf_24 : decode b_JLatin_indexOf 24 = .ok (.if_icmp .lt 5, 3) := by decide +kernel
theorem d_JLatin_indexOf_27 : decode b_JLatin_indexOf 27 = .ok (.iconst (-1), 1) := by decide +kernel
theorem d_JLatin_indexOf_28 : decode b_JLatin_indexOf 28 = .ok (.ireturn, 1) := by decide +kernel
theorem d_JLatin_indexOf_29 : decode b_JLatin_indexOf 29 = .ok (.aload_n 0, 1) := by decide +kernel
theorem d_JLatin_indexOf_30 : decode b_JLatin_indexOf 30 = .ok (.iload_n 1, 1) := by decide +kernel
theorem d_JLatin_indexOf_31 : decode b_JLatin_indexOf 31 = .ok (.iload_n 2, 1) := by decide +kernel
theorem d_JLatin_indexOf_32 : decode b_JLatin_indexOf 32 = .ok (.iload_n 3, 1) := by decide +kernel
theorem d_JLatin_indexOf_33 : decode b_JLatin_indexOf 33 = .ok (.invokestatic 95, 3) := by decide +kernel
theorem d_JLatin_indexOf_36 : decode b_JLatin_indexOf 36 = .ok (.ireturn, 1) := by decide +kernel
theorem d_JLatin_canEncode_0 : decode b_JLatin_canEncode 0 = .ok (.iload_n 0, 1) := by decide +kernel
theorem d_JLatin_canEncode_1 : decode b_JLatin_canEncode 1 = .ok (.ifCond .lt 14, 3) := by decide +kernel
theorem d_JLatin_canEncode_4 : decode b_JLatin_canEncode 4 = .ok (.iload_n 0, 1) := by decide +kernel
theorem d_JLatin_canEncode_5 : decode b_JLatin_canEncode 5 = .ok (.sipush 255, 3) := by decide +kernel
theorem d_JLatin_canEncode_8 : decode b_JLatin_canEncode 8 = .ok (.if_icmp .gt 7, 3) := by decide +kernel
theorem d_JLatin_canEncode_11 : decode b_JLatin_canEncode 11 = .ok (.iconst 1, 1) := by decide +kernel
theorem d_JLatin_canEncode_12 : decode b_JLatin_canEncode 12 = .ok (.goto 4, 3) := by decide +kernel
theorem d_JLatin_canEncode_15 : decode b_JLatin_canEncode 15 = .ok (.iconst 0, 1) := by decide +kernel
theorem d_JLatin_canEncode_16 : decode b_JLatin_canEncode 16 = .ok (.ireturn, 1) := by decide +kernel
theorem d_JLatin_indexOfChar_0 : decode b_JLatin_indexOfChar 0 = .ok (.iload_n 1, 1) := by decide +kernel
theorem d_JLatin_indexOfChar_1 : decode b_JLatin_indexOfChar 1 = .ok (.i2b, 1) := by decide +kernel
theorem d_JLatin_indexOfChar_2 : decode b_JLatin_indexOfChar 2 = .ok (.istore 4, 2) := by decide +kernel
theorem d_JLatin_indexOfChar_4 : decode b_JLatin_indexOfChar 4 = .ok (.iload_n 2, 1) := by decide +kernel
theorem d_JLatin_indexOfChar_5 : decode b_JLatin_indexOfChar 5 = .ok (.istore 5, 2) := by decide +kernel
theorem d_JLatin_indexOfChar_7 : decode b_JLatin_indexOfChar 7 = .ok (.iload 5, 2) := by decide +kernel
theorem d_JLatin_indexOfChar_9 : decode b_JLatin_indexOfChar 9 = .ok (.iload_n 3, 1) := by decide +kernel
theorem d_JLatin_indexOfChar_10 : decode b_JLatin_indexOfChar 10 = .ok (.if_icmp .ge 21, 3) := by decide +kernel
theorem d_JLatin_indexOfChar_13 : decode b_JLatin_indexOfChar 13 = .ok (.aload_n 0, 1) := by decide +kernel
theorem d_JLatin_indexOfChar_14 : decode b_JLatin_indexOfChar 14 = .ok (.iload 5, 2) := by decide +kernel
theorem d_JLatin_indexOfChar_16 : decode b_JLatin_indexOfChar 16 = .ok (.baload, 1) := by decide +kernel
theorem d_JLatin_indexOfChar_17 : decode b_JLatin_indexOfChar 17 = .ok (.iload 4, 2) := by decide +kernel
theorem d_JLatin_indexOfChar_19 : decode b_JLatin_indexOfChar 19 = .ok (.if_icmp .ne 6, 3) := by decide +kernel
theorem d_JLatin_indexOfChar_22 : decode b_JLatin_indexOfChar 22 = .ok (.iload 5, 2) := by decide +kernel
theorem d_JLatin_indexOfChar_24 : decode b_JLatin_indexOfChar 24 = .ok (.ireturn, 1) := by decide +kernel
theorem d_JLatin_indexOfChar_25 : decode b_JLatin_indexOfChar 25 = .ok (.iinc 5 1, 3) := by decide +kernel
theorem d_JLatin_indexOfChar_28 : decode b_JLatin_indexOfChar 28 = .ok (.goto (-21), 3) := by decide +kernel
theorem d_JLatin_indexOfChar_31 : decode b_JLatin_indexOfChar 31 = .ok (.iconst (-1), 1) := by decide +kernel
theorem d_JLatin_indexOfChar_32 : decode b_JLatin_indexOfChar 32 = .ok (.ireturn, 1) := by decide +kernel
theorem T_JString_335 : TOK "java/lang/String" 335 M_JString_coder 0 := ⟨(tg 371 (by decide +kernel) rfl), (tg 372 (by decide +kernel) rfl), (tg 373 (by decide +kernel) rfl), (tg 60 (by decide +kernel) rfl), (tg 374 (by decide +kernel) rfl), rfl, by decide +kernel, by decide +kernel, by decide +kernel⟩
theorem T_JString_492 : TOK "java/lang/String" 492 M_JString_isLatin1 0 := ⟨(tg 361 (by decide +kernel) rfl), (tg 362 (by decide +kernel) rfl), (tg 363 (by decide +kernel) rfl), (tg 60 (by decide +kernel) rfl), (tg 364 (by decide +kernel) rfl), rfl, by decide +kernel, by decide +kernel, by decide +kernel⟩
theorem T_JString_505 : TOK "java/lang/String" 505 M_JString_length 0 := ⟨(tg 367 (by decide +kernel) rfl), (tg 368 (by decide +kernel) rfl), (tg 369 (by decide +kernel) rfl), (tg 60 (by decide +kernel) rfl), (tg 370 (by decide +kernel) rfl), rfl, by decide +kernel, by decide +kernel, by decide +kernel⟩
theorem T_JString_633 : TOK "java/lang/String" 633 M_JString_indexOf2 2 := ⟨(tg 357 (by decide +kernel) rfl), (tg 358 (by decide +kernel) rfl), (tg 359 (by decide +kernel) rfl), (tg 60 (by decide +kernel) rfl), (tg 360 (by decide +kernel) rfl), rfl, by decide +kernel, by decide +kernel, by decide +kernel⟩
theorem S_JString_495 : SOK "java/lang/String" 495 M_JLatin_charAt 2 := ⟨(tg 452 (by decide +kernel) rfl), (tg 453 (by decide +kernel) rfl), (tg 61 (by decide +kernel) rfl), (tg 454 (by decide +kernel) rfl), by decide +kernel, by decide +kernel, by decide +kernel⟩
theorem S_JString_637 : SOK "java/lang/String" 637 M_JLatin_indexOf 4 := ⟨(tg 375 (by decide +kernel) rfl), (tg 376 (by decide +kernel) rfl), (tg 61 (by decide +kernel) rfl), (tg 377 (by decide +kernel) rfl), by decide +kernel, by decide +kernel, by decide +kernel⟩
theorem S_JString_1059 : SOK "java/lang/String" 1059 M_JPre_checkIndex 3 := ⟨(tg 458 (by decide +kernel) rfl), (tg 459 (by decide +kernel) rfl), (tg 64 (by decide +kernel) rfl), (tg 460 (by decide +kernel) rfl), by decide +kernel, by decide +kernel, by decide +kernel⟩
theorem S_JLatin_9 : SOK "java/lang/StringLatin1" 9 M_JString_checkIndex 2 := ⟨(tg 455 (by decide +kernel) rfl), (tg 456 (by decide +kernel) rfl), (tg 60 (by decide +kernel) rfl), (tg 457 (by decide +kernel) rfl), by decide +kernel, by decide +kernel, by decide +kernel⟩
theorem S_JLatin_88 : SOK "java/lang/StringLatin1" 88 M_JLatin_canEncode 1 := ⟨(tg 378 (by decide +kernel) rfl), (tg 379 (by decide +kernel) rfl), (tg 61 (by decide +kernel) rfl), (tg 380 (by decide +kernel) rfl), by decide +kernel, by decide +kernel, by decide +kernel⟩
theorem S_JLatin_92 : SOK "java/lang/StringLatin1" 92 M_JMath_max 2 := ⟨(tg 381 (by decide +kernel) rfl), (tg 382 (by decide +kernel) rfl), (tg 62 (by decide +kernel) rfl), (tg 383 (by decide +kernel) rfl), by decide +kernel, by decide +kernel, by decide +kernel⟩
theorem S_JLatin_38 : SOK "java/lang/StringLatin1" 38 M_JMath_min 2 := ⟨(tg 384 (by decide +kernel) rfl), (tg 385 (by decide +kernel) rfl), (tg 62 (by decide +kernel) rfl), (tg 386 (by decide +kernel) rfl), by decide +kernel, by decide +kernel, by decide +kernel⟩
theorem S_JLatin_95 : SOK "java/lang/StringLatin1" 95 M_JLatin_indexOfChar 4 := ⟨(tg 387 (by decide +kernel) rfl), (tg 388 (by decide +kernel) rfl), (tg 61 (by decide +kernel) rfl), (tg 389 (by decide +kernel) rfl), by decide +kernel, by decide +kernel, by decide +kernel⟩
def B_JString_isLatin1 (X : WX) (d : Nat) : ST := (sRetZ (xite (cAnd (cNot (cEq0 (xc 1))) (cEq0 (xcod X (xr 0)))) (xc 1) (xc 0)))
set_option maxHeartbeats 4000000 in
set_option maxRecDepth 20000 in
theorem F_JString_isLatin1 (X : WX) (d : Nat) : FS X "java/lang/String" b_JString_isLatin1 1 (some .boolean) false (rmOf (d + 1) 0 0) 0 19 0 0 (B_JString_isLatin1 X d) :=
  (s_retZ (r_ite (c_and (c_not (c_eq0_t (r_cs d_JString_isLatin1_0) d_JString_isLatin1_3 (by decide))) (c_eq0_f (r_cod (r_aload_n d_JString_isLatin1_6 rfl) d_JString_isLatin1_7) d_JString_isLatin1_10 (by decide))) (r_iconst d_JString_isLatin1_13 (by decide)) d_JString_isLatin1_14 (by decide) (r_iconst d_JString_isLatin1_17 (by decide))) rfl d_JString_isLatin1_18)
def B_JString_coder (X : WX) (d : Nat) : ST := (sRetZ (xite (cNot (cEq0 (xc 1))) (xcod X (xr 0)) (xc 1)))
set_option maxHeartbeats 4000000 in
set_option maxRecDepth 20000 in
theorem F_JString_coder (X : WX) (d : Nat) : FS X "java/lang/String" b_JString_coder 1 (some .byte) false (rmOf (d + 1) 0 0) 0 15 0 0 (B_JString_coder X d) :=
  (s_retB (r_ite (c_not (c_eq0_t (r_cs d_JString_coder_0) d_JString_coder_3 (by decide))) (r_cod (r_aload_n d_JString_coder_6 rfl) d_JString_coder_7) d_JString_coder_10 (by decide) (r_iconst d_JString_coder_13 (by decide))) rfl d_JString_coder_14)
def B_JString_length (X : WX) (d : Nat) : ST := (sRetI (xshr (xbl X (xval X (xr 0))) (kI (kT X M_JString_coder d (xr 0) aN))))
set_option maxHeartbeats 4000000 in
set_option maxRecDepth 20000 in
theorem F_JString_length (X : WX) (d : Nat) : FS X "java/lang/String" b_JString_length 1 (some .int) false (rmOf (d + 1) 0 0) 0 11 0 0 (B_JString_length X d) :=
  (s_retI (r_shr (r_bl (r_val (r_aload_n d_JString_length_0 rfl) d_JString_length_1) d_JString_length_4) (k_I (k_T (r_aload_n d_JString_length_5 rfl) a_N T_JString_335 (by decide) (Nat.le_refl _) (rm_loc (by decide)) d_JString_length_6)) d_JString_length_9) rfl d_JString_length_10)
def B_JString_charAt (X : WX) (d : Nat) : ST := (sSeq (sIf (cNot (cEq0 (kI (kT X M_JString_isLatin1 d (xr 0) aN)))) (sRetC (kI (kS X M_JLatin_charAt d (aC (vR (xval X (xr 0))) (aC (vI (xi 1)) aN))))) sSkip) sNo)
set_option maxHeartbeats 4000000 in
set_option maxRecDepth 20000 in
theorem F_JString_charAt (X : WX) (d : Nat) : FS X "java/lang/String" b_JString_charAt 2 (some .char) false (rmOf (d + 1) 0 0) 0 25 0 0 (B_JString_charAt X d) :=
  (s_seq (s_if (c_not (c_eq0_t (tgt := 16) (k_I (k_T (r_aload_n d_JString_charAt_0 rfl) a_N T_JString_492 (by decide) (Nat.le_refl _) (rm_loc (by decide)) d_JString_charAt_1)) d_JString_charAt_4 (by decide))) (s_retC (k_I (k_S (a_C (v_R (r_val (r_aload_n d_JString_charAt_7 rfl) d_JString_charAt_8)) (a_C (v_I (r_iload_n d_JString_charAt_11 rfl)) a_N)) S_JString_495 (by decide) (Nat.le_refl _) (rm_loc (by decide)) d_JString_charAt_12)) rfl d_JString_charAt_15) s_skip) s_no)
def B_JLatin_charAt (X : WX) (d : Nat) : ST := (sSeq (sK (kS X M_JString_checkIndex d (aC (vI (xi 1)) (aC (vI (xbl X (xr 0))) aN)))) (sRetC (xi2c (xand (xbg X (xr 0) (xi 1)) (xc 255)))))
set_option maxHeartbeats 4000000 in
set_option maxRecDepth 20000 in
theorem F_JLatin_charAt (X : WX) (d : Nat) : FS X "java/lang/StringLatin1" b_JLatin_charAt 2 (some .char) false (rmOf (d + 1) 0 0) 0 15 0 0 (B_JLatin_charAt X d) :=
  (s_seq (s_K (k_S (a_C (v_I (r_iload_n d_JLatin_charAt_0 rfl)) (a_C (v_I (r_bl (r_aload_n d_JLatin_charAt_1 rfl) d_JLatin_charAt_2)) a_N)) S_JLatin_9 (by decide) (Nat.le_refl _) (rm_loc (by decide)) d_JLatin_charAt_3)) (s_retC (r_i2c (r_and (r_bg (r_aload_n d_JLatin_charAt_6 rfl) (r_iload_n d_JLatin_charAt_7 rfl) d_JLatin_charAt_8) (r_sipush d_JLatin_charAt_9 (by decide)) d_JLatin_charAt_12) d_JLatin_charAt_13) rfl d_JLatin_charAt_14))
def B_JString_checkIndex (X : WX) (d : Nat) : ST := (sSeq (sPop (kI (kS X M_JPre_checkIndex d (aC (vI (xi 0)) (aC (vI (xi 1)) (aC vQ aN)))))) sRet)
set_option maxHeartbeats 4000000 in
set_option maxRecDepth 20000 in
theorem F_JString_checkIndex (X : WX) (d : Nat) : FS X "java/lang/String" b_JString_checkIndex 2 (none) false (rmOf (d + 1) 0 0) 0 10 0 0 (B_JString_checkIndex X d) :=
  (s_seq (s_pop (k_I (k_S (a_C (v_I (r_iload_n d_JString_checkIndex_0 rfl)) (a_C (v_I (r_iload_n d_JString_checkIndex_1 rfl)) (a_C (v_Q d_JString_checkIndex_2) a_N))) S_JString_1059 (by decide) (Nat.le_refl _) (rm_loc (by decide)) d_JString_checkIndex_5)) d_JString_checkIndex_8) (s_ret rfl d_JString_checkIndex_9))
def B_JPre_checkIndex (X : WX) (d : Nat) : ST := (sSeq (sIf (cOr (cLt0 (xi 0)) (cNot (cLt (xi 0) (xi 1)))) sNo sSkip) (sRetI (xi 0)))
set_option maxHeartbeats 4000000 in
set_option maxRecDepth 20000 in
theorem F_JPre_checkIndex (X : WX) (d : Nat) : FS X "jdk/internal/util/Preconditions" b_JPre_checkIndex 3 (some .int) false (rmOf (d + 1) 0 0) 0 18 0 0 (B_JPre_checkIndex X d) :=
  (s_seq (s_if (c_or (c_lt0_t (r_iload_n d_JPre_checkIndex_0 rfl) d_JPre_checkIndex_1 (by decide)) (c_not (c_lt_t (r_iload_n d_JPre_checkIndex_4 rfl) (r_iload_n d_JPre_checkIndex_5 rfl) d_JPre_checkIndex_6 (by decide)))) s_no s_skip) (s_retI (r_iload_n d_JPre_checkIndex_16 rfl) rfl d_JPre_checkIndex_17))
def B_JString_indexOf (X : WX) (d : Nat) : ST := (sRetI (kI (kT X M_JString_indexOf2 d (xr 0) (aC (vI (xi 1)) (aC (vI (xc 0)) aN)))))
set_option maxHeartbeats 4000000 in
set_option maxRecDepth 20000 in
theorem F_JString_indexOf (X : WX) (d : Nat) : FS X "java/lang/String" b_JString_indexOf 2 (some .int) false (rmOf (d + 1) 0 0) 0 7 0 0 (B_JString_indexOf X d) :=
  (s_retI (k_I (k_T (r_aload_n d_JString_indexOf_0 rfl) (a_C (v_I (r_iload_n d_JString_indexOf_1 rfl)) (a_C (v_I (r_iconst d_JString_indexOf_2 (by decide))) a_N)) T_JString_633 (by decide) (Nat.le_refl _) (rm_loc (by decide)) d_JString_indexOf_3)) rfl d_JString_indexOf_6)
def B_JString_indexOf2 (X : WX) (d : Nat) : ST := (sRetI (xite (cNot (cEq0 (kI (kT X M_JString_isLatin1 d (xr 0) aN)))) (kI (kS X M_JLatin_indexOf d (aC (vR (xval X (xr 0))) (aC (vI (xi 1)) (aC (vI (xi 2)) (aC (vI (kI (kT X M_JString_length d (xr 0) aN))) aN)))))) xNoI))
set_option maxHeartbeats 4000000 in
set_option maxRecDepth 20000 in
theorem F_JString_indexOf2 (X : WX) (d : Nat) : FS X "java/lang/String" b_JString_indexOf2 3 (some .int) false (rmOf (d + 1) 0 0) 0 37 0 0 (B_JString_indexOf2 X d) :=
  (s_retI (r_ite (c_not (c_eq0_t (tgt := 23) (k_I (k_T (r_aload_n d_JString_indexOf2_0 rfl) a_N T_JString_492 (by decide) (Nat.le_refl _) (rm_loc (by decide)) d_JString_indexOf2_1)) d_JString_indexOf2_4 (by decide))) (k_I (k_S (a_C (v_R (r_val (r_aload_n d_JString_indexOf2_7 rfl) d_JString_indexOf2_8)) (a_C (v_I (r_iload_n d_JString_indexOf2_11 rfl)) (a_C (v_I (r_iload_n d_JString_indexOf2_12 rfl)) (a_C (v_I (k_I (k_T (r_aload_n d_JString_indexOf2_13 rfl) a_N T_JString_505 (by decide) (Nat.le_refl _) (rm_loc (by decide)) d_JString_indexOf2_14))) a_N)))) S_JString_637 (by decide) (Nat.le_refl _) (rm_loc (by decide)) d_JString_indexOf2_17)) d_JString_indexOf2_20 (by decide) r_noI) rfl d_JString_indexOf2_36)
def B_JLatin_indexOf (X : WX) (d : Nat) : ST := (sSeq (sIf (cEq0 (kI (kS X M_JLatin_canEncode d (aC (vI (xi 1)) aN)))) (sRetI (xc (-1))) sSkip) (sSeq (sI 2 (xmax (xi 2) (xc 0))) (sSeq (sI 3 (xmin (xi 3) (xbl X (xr 0)))) (sSeq (sIf (cNot (cLt (xi 2) (xi 3))) (sRetI (xc (-1))) sSkip) (sRetI (kI (kS X M_JLatin_indexOfChar d (aC (vR (xr 0)) (aC (vI (xi 1)) (aC (vI (xi 2)) (aC (vI (xi 3)) aN)))))))))))
set_option maxHeartbeats 4000000 in
set_option maxRecDepth 20000 in
theorem F_JLatin_indexOf (X : WX) (d : Nat) : FS X "java/lang/StringLatin1" b_JLatin_indexOf 4 (some .int) false (rmOf (d + 1) 0 0) 0 37 0 0 (B_JLatin_indexOf X d) :=
  (s_seq (s_if (c_eq0_f (k_I (k_S (a_C (v_I (r_iload_n d_JLatin_indexOf_0 rfl)) a_N) S_JLatin_88 (by decide) (Nat.le_refl _) (rm_loc (by decide)) d_JLatin_indexOf_1)) d_JLatin_indexOf_4 (by decide)) (s_retI (r_iconst d_JLatin_indexOf_7 (by decide)) rfl d_JLatin_indexOf_8) s_skip) (s_seq (s_I_n (r_max (r_iload_n d_JLatin_indexOf_9 rfl) (r_iconst d_JLatin_indexOf_10 (by decide)) (tg 381 (by decide +kernel) rfl) (by show 1 ≤ d + 1; omega) (by show 0 + 13 ≤ 48 * (d + 1); omega) d_JLatin_indexOf_11) (by decide) d_JLatin_indexOf_14 rfl) (s_seq (s_I_n (r_min (r_iload_n d_JLatin_indexOf_15 rfl) (r_bl (r_aload_n d_JLatin_indexOf_16 rfl) d_JLatin_indexOf_17) (tg 384 (by decide +kernel) rfl) (by show 1 ≤ d + 1; omega) (by show 0 + 13 ≤ 48 * (d + 1); omega) d_JLatin_indexOf_18) (by decide) d_JLatin_indexOf_21 rfl) (s_seq (s_if (c_not (c_lt_t (r_iload_n d_JLatin_indexOf_22 rfl) (r_iload_n d_JLatin_indexOf_23 rfl) d_JLatin_indexOf_24 (by decide))) (s_retI (r_iconst d_JLatin_indexOf_27 (by decide)) rfl d_JLatin_indexOf_28) s_skip) (s_retI (k_I (k_S (a_C (v_R (r_aload_n d_JLatin_indexOf_29 rfl)) (a_C (v_I (r_iload_n d_JLatin_indexOf_30 rfl)) (a_C (v_I (r_iload_n d_JLatin_indexOf_31 rfl)) (a_C (v_I (r_iload_n d_JLatin_indexOf_32 rfl)) a_N)))) S_JLatin_95 (by decide) (Nat.le_refl _) (rm_loc (by decide)) d_JLatin_indexOf_33)) rfl d_JLatin_indexOf_36)))))
def B_JLatin_canEncode (X : WX) (d : Nat) : ST := (sRetZ (xite (cAnd (cNot (cLt0 (xi 0))) (cNot (cGt (xi 0) (xc 255)))) (xc 1) (xc 0)))
set_option maxHeartbeats 4000000 in
set_option maxRecDepth 20000 in
theorem F_JLatin_canEncode (X : WX) (d : Nat) : FS X "java/lang/StringLatin1" b_JLatin_canEncode 1 (some .boolean) false (rmOf (d + 1) 0 0) 0 17 0 0 (B_JLatin_canEncode X d) :=
  (s_retZ (r_ite (c_and (c_not (c_lt0_t (r_iload_n d_JLatin_canEncode_0 rfl) d_JLatin_canEncode_1 (by decide))) (c_not (c_gt_t (r_iload_n d_JLatin_canEncode_4 rfl) (r_sipush d_JLatin_canEncode_5 (by decide)) d_JLatin_canEncode_8 (by decide)))) (r_iconst d_JLatin_canEncode_11 (by decide)) d_JLatin_canEncode_12 (by decide) (r_iconst d_JLatin_canEncode_15 (by decide))) rfl d_JLatin_canEncode_16)
def B_JLatin_indexOfChar (X : WX) (d : Nat) : ST := (sSeq (sI 4 (xi2b (xi 1))) (sSeq (sI 5 (xi 2)) (sSeq (sFor (cLt (xi 5) (xi 3)) (sIf (cEq (xbg X (xr 0) (xi 5)) (xi 4)) (sRetI (xi 5)) sSkip) (sInc 5 1)) (sRetI (xc (-1))))))
set_option maxHeartbeats 4000000 in
set_option maxRecDepth 20000 in
theorem F_JLatin_indexOfChar (X : WX) (d : Nat) : FS X "java/lang/StringLatin1" b_JLatin_indexOfChar 6 (some .int) false (rmOf (d + 1) 0 0) 0 33 0 0 (B_JLatin_indexOfChar X d) :=
  (s_seq (s_I (r_i2b (r_iload_n d_JLatin_indexOfChar_0 rfl) d_JLatin_indexOfChar_1) (by decide) d_JLatin_indexOfChar_2) (s_seq (s_I (r_iload_n d_JLatin_indexOfChar_4 rfl) (by decide) d_JLatin_indexOfChar_5) (s_seq (s_for (x1 := 0) (x2 := 0) (c_lt_f (r_iload d_JLatin_indexOfChar_7) (r_iload_n d_JLatin_indexOfChar_9 rfl) d_JLatin_indexOfChar_10 (by decide)) (s_if (c_eq_f (r_bg (r_aload_n d_JLatin_indexOfChar_13 rfl) (r_iload d_JLatin_indexOfChar_14) d_JLatin_indexOfChar_16) (r_iload d_JLatin_indexOfChar_17) d_JLatin_indexOfChar_19 (by decide)) (s_retI (r_iload d_JLatin_indexOfChar_22) rfl d_JLatin_indexOfChar_24) s_skip) (s_inc (by decide) d_JLatin_indexOfChar_25 (by decide)) d_JLatin_indexOfChar_28 (by decide)) (s_retI (r_iconst d_JLatin_indexOfChar_31 (by decide)) rfl d_JLatin_indexOfChar_32))))
