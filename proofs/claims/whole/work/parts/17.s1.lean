theorem zS0_0 : ∀ q ∈ zm_c0_0, zm_Snd 0 q.1 q.2 :=
  zcons (a := (0, zi_il 0 1)) (zs_il_n (M := 0) (pc := 0) (zd_eq zk0 (by decide +kernel : decode cJ6_bitCount_0f7a4 0 = .ok (.iload_n 0, 1)))) <|
  zcons (a := (1, zi_il 0 2)) (zs_il_n (M := 0) (pc := 1) (zd_eq zk0 (by decide +kernel : decode cJ6_bitCount_0f7a4 1 = .ok (.iload_n 0, 1)))) <|
  zcons (a := (2, zi_k (.int 1) 3)) (zs_iconst (M := 0) (pc := 2) (zd_eq zk0 (by decide +kernel : decode cJ6_bitCount_0f7a4 2 = .ok (.iconst 1, 1))) (by decide)) <|
  zcons (a := (3, zi_bin (fun x y => (x.toUInt32 >>> (y.toUInt32 &&& Int32.toUInt32 31)).toInt32) 4)) (zs_iushr (M := 0) (pc := 3) (zd_eq zk0 (by decide +kernel : decode cJ6_bitCount_0f7a4 3 = .ok (.iushr, 1)))) <|
  zcons (a := (4, zi_k (.int 1431655765) 7)) (zs_ldcw (M := 0) (pc := 4) (zd_eq zk0 (by decide +kernel : decode cJ6_bitCount_0f7a4 4 = .ok (.ldc_w 265, 3))) (zl_k zo0 zw_564)) <|
  zcons (a := (7, zi_bin (· &&& ·) 8)) (zs_iand (M := 0) (pc := 7) (zd_eq zk0 (by decide +kernel : decode cJ6_bitCount_0f7a4 7 = .ok (.iand, 1)))) <|
  zcons (a := (8, zi_bin (· - ·) 9)) (zs_isub (M := 0) (pc := 8) (zd_eq zk0 (by decide +kernel : decode cJ6_bitCount_0f7a4 8 = .ok (.isub, 1)))) <|
  zcons (a := (9, zi_is 0 10)) (zs_is_n (M := 0) (pc := 9) (zd_eq zk0 (by decide +kernel : decode cJ6_bitCount_0f7a4 9 = .ok (.istore_n 0, 1))) (by decide +kernel) (by decide +kernel)) <|
  zcons (a := (10, zi_il 0 11)) (zs_il_n (M := 0) (pc := 10) (zd_eq zk0 (by decide +kernel : decode cJ6_bitCount_0f7a4 10 = .ok (.iload_n 0, 1)))) <|
  zcons (a := (11, zi_k (.int 858993459) 14)) (zs_ldcw (M := 0) (pc := 11) (zd_eq zk0 (by decide +kernel : decode cJ6_bitCount_0f7a4 11 = .ok (.ldc_w 266, 3))) (zl_k zo0 zw_565)) <|
  zcons (a := (14, zi_bin (· &&& ·) 15)) (zs_iand (M := 0) (pc := 14) (zd_eq zk0 (by decide +kernel : decode cJ6_bitCount_0f7a4 14 = .ok (.iand, 1)))) <|
  zcons (a := (15, zi_il 0 16)) (zs_il_n (M := 0) (pc := 15) (zd_eq zk0 (by decide +kernel : decode cJ6_bitCount_0f7a4 15 = .ok (.iload_n 0, 1)))) <|
  zcons (a := (16, zi_k (.int 2) 17)) (zs_iconst (M := 0) (pc := 16) (zd_eq zk0 (by decide +kernel : decode cJ6_bitCount_0f7a4 16 = .ok (.iconst 2, 1))) (by decide)) <|
  zcons (a := (17, zi_bin (fun x y => (x.toUInt32 >>> (y.toUInt32 &&& Int32.toUInt32 31)).toInt32) 18)) (zs_iushr (M := 0) (pc := 17) (zd_eq zk0 (by decide +kernel : decode cJ6_bitCount_0f7a4 17 = .ok (.iushr, 1)))) <|
  zcons (a := (18, zi_k (.int 858993459) 21)) (zs_ldcw (M := 0) (pc := 18) (zd_eq zk0 (by decide +kernel : decode cJ6_bitCount_0f7a4 18 = .ok (.ldc_w 266, 3))) (zl_k zo0 zw_565)) <|
  zcons (a := (21, zi_bin (· &&& ·) 22)) (zs_iand (M := 0) (pc := 21) (zd_eq zk0 (by decide +kernel : decode cJ6_bitCount_0f7a4 21 = .ok (.iand, 1)))) <|
  zcons (a := (22, zi_bin (· + ·) 23)) (zs_iadd (M := 0) (pc := 22) (zd_eq zk0 (by decide +kernel : decode cJ6_bitCount_0f7a4 22 = .ok (.iadd, 1)))) <|
  zcons (a := (23, zi_is 0 24)) (zs_is_n (M := 0) (pc := 23) (zd_eq zk0 (by decide +kernel : decode cJ6_bitCount_0f7a4 23 = .ok (.istore_n 0, 1))) (by decide +kernel) (by decide +kernel)) <|
  zcons (a := (24, zi_il 0 25)) (zs_il_n (M := 0) (pc := 24) (zd_eq zk0 (by decide +kernel : decode cJ6_bitCount_0f7a4 24 = .ok (.iload_n 0, 1)))) <|
  zcons (a := (25, zi_il 0 26)) (zs_il_n (M := 0) (pc := 25) (zd_eq zk0 (by decide +kernel : decode cJ6_bitCount_0f7a4 25 = .ok (.iload_n 0, 1)))) <|
  zcons (a := (26, zi_k (.int 4) 27)) (zs_iconst (M := 0) (pc := 26) (zd_eq zk0 (by decide +kernel : decode cJ6_bitCount_0f7a4 26 = .ok (.iconst 4, 1))) (by decide)) <|
  zcons (a := (27, zi_bin (fun x y => (x.toUInt32 >>> (y.toUInt32 &&& Int32.toUInt32 31)).toInt32) 28)) (zs_iushr (M := 0) (pc := 27) (zd_eq zk0 (by decide +kernel : decode cJ6_bitCount_0f7a4 27 = .ok (.iushr, 1)))) <|
  zcons (a := (28, zi_bin (· + ·) 29)) (zs_iadd (M := 0) (pc := 28) (zd_eq zk0 (by decide +kernel : decode cJ6_bitCount_0f7a4 28 = .ok (.iadd, 1)))) <|
  zcons (a := (29, zi_k (.int 252645135) 32)) (zs_ldcw (M := 0) (pc := 29) (zd_eq zk0 (by decide +kernel : decode cJ6_bitCount_0f7a4 29 = .ok (.ldc_w 267, 3))) (zl_k zo0 zw_566)) <| znil
theorem zS0_1 : ∀ q ∈ zm_c0_1, zm_Snd 0 q.1 q.2 :=
  zcons (a := (32, zi_bin (· &&& ·) 33)) (zs_iand (M := 0) (pc := 32) (zd_eq zk0 (by decide +kernel : decode cJ6_bitCount_0f7a4 32 = .ok (.iand, 1)))) <|
  zcons (a := (33, zi_is 0 34)) (zs_is_n (M := 0) (pc := 33) (zd_eq zk0 (by decide +kernel : decode cJ6_bitCount_0f7a4 33 = .ok (.istore_n 0, 1))) (by decide +kernel) (by decide +kernel)) <|
  zcons (a := (34, zi_il 0 35)) (zs_il_n (M := 0) (pc := 34) (zd_eq zk0 (by decide +kernel : decode cJ6_bitCount_0f7a4 34 = .ok (.iload_n 0, 1)))) <|
  zcons (a := (35, zi_il 0 36)) (zs_il_n (M := 0) (pc := 35) (zd_eq zk0 (by decide +kernel : decode cJ6_bitCount_0f7a4 35 = .ok (.iload_n 0, 1)))) <|
  zcons (a := (36, zi_k (.int 8) 38)) (zs_bipush (M := 0) (pc := 36) (zd_eq zk0 (by decide +kernel : decode cJ6_bitCount_0f7a4 36 = .ok (.bipush 8, 2))) (by decide)) <|
  zcons (a := (38, zi_bin (fun x y => (x.toUInt32 >>> (y.toUInt32 &&& Int32.toUInt32 31)).toInt32) 39)) (zs_iushr (M := 0) (pc := 38) (zd_eq zk0 (by decide +kernel : decode cJ6_bitCount_0f7a4 38 = .ok (.iushr, 1)))) <|
  zcons (a := (39, zi_bin (· + ·) 40)) (zs_iadd (M := 0) (pc := 39) (zd_eq zk0 (by decide +kernel : decode cJ6_bitCount_0f7a4 39 = .ok (.iadd, 1)))) <|
  zcons (a := (40, zi_is 0 41)) (zs_is_n (M := 0) (pc := 40) (zd_eq zk0 (by decide +kernel : decode cJ6_bitCount_0f7a4 40 = .ok (.istore_n 0, 1))) (by decide +kernel) (by decide +kernel)) <|
  zcons (a := (41, zi_il 0 42)) (zs_il_n (M := 0) (pc := 41) (zd_eq zk0 (by decide +kernel : decode cJ6_bitCount_0f7a4 41 = .ok (.iload_n 0, 1)))) <|
  zcons (a := (42, zi_il 0 43)) (zs_il_n (M := 0) (pc := 42) (zd_eq zk0 (by decide +kernel : decode cJ6_bitCount_0f7a4 42 = .ok (.iload_n 0, 1)))) <|
  zcons (a := (43, zi_k (.int 16) 45)) (zs_bipush (M := 0) (pc := 43) (zd_eq zk0 (by decide +kernel : decode cJ6_bitCount_0f7a4 43 = .ok (.bipush 16, 2))) (by decide)) <|
  zcons (a := (45, zi_bin (fun x y => (x.toUInt32 >>> (y.toUInt32 &&& Int32.toUInt32 31)).toInt32) 46)) (zs_iushr (M := 0) (pc := 45) (zd_eq zk0 (by decide +kernel : decode cJ6_bitCount_0f7a4 45 = .ok (.iushr, 1)))) <|
  zcons (a := (46, zi_bin (· + ·) 47)) (zs_iadd (M := 0) (pc := 46) (zd_eq zk0 (by decide +kernel : decode cJ6_bitCount_0f7a4 46 = .ok (.iadd, 1)))) <|
  zcons (a := (47, zi_is 0 48)) (zs_is_n (M := 0) (pc := 47) (zd_eq zk0 (by decide +kernel : decode cJ6_bitCount_0f7a4 47 = .ok (.istore_n 0, 1))) (by decide +kernel) (by decide +kernel)) <|
  zcons (a := (48, zi_il 0 49)) (zs_il_n (M := 0) (pc := 48) (zd_eq zk0 (by decide +kernel : decode cJ6_bitCount_0f7a4 48 = .ok (.iload_n 0, 1)))) <|
  zcons (a := (49, zi_k (.int 63) 51)) (zs_bipush (M := 0) (pc := 49) (zd_eq zk0 (by decide +kernel : decode cJ6_bitCount_0f7a4 49 = .ok (.bipush 63, 2))) (by decide)) <|
  zcons (a := (51, zi_bin (· &&& ·) 52)) (zs_iand (M := 0) (pc := 51) (zd_eq zk0 (by decide +kernel : decode cJ6_bitCount_0f7a4 51 = .ok (.iand, 1)))) <|
  zcons (a := (52, zi_ri)) (zs_ri (M := 0) (pc := 52) (zd_eq zk0 (by decide +kernel : decode cJ6_bitCount_0f7a4 52 = .ok (.ireturn, 1))) rfl) <| znil
theorem zS0 : ∀ pc, zm_Snd 0 pc (zm_lk2 zm_c0 pc) := zlk2 (zcons2 zS0_0 (zcons2 zS0_1 (znil2)))
theorem zS1_0 : ∀ q ∈ zm_c1_0, zm_Snd 1 q.1 q.2 :=
  zcons (a := (0, zi_k (.int 0) 1)) (zs_iconst (M := 1) (pc := 0) (zd_eq zk1 (by decide +kernel : decode cJ7_fill_53178 0 = .ok (.iconst 0, 1))) (by decide)) <|
  zcons (a := (1, zi_is 2 2)) (zs_is_n (M := 1) (pc := 1) (zd_eq zk1 (by decide +kernel : decode cJ7_fill_53178 1 = .ok (.istore_n 2, 1))) (by decide +kernel) (by decide +kernel)) <|
  zcons (a := (2, zi_al 0 3)) (zs_al_n (M := 1) (pc := 2) (zd_eq zk1 (by decide +kernel : decode cJ7_fill_53178 2 = .ok (.aload_n 0, 1)))) <|
  zcons (a := (3, zi_len 4)) (zs_len (M := 1) (pc := 3) (zd_eq zk1 (by decide +kernel : decode cJ7_fill_53178 3 = .ok (.arraylength, 1)))) <|
  zcons (a := (4, zi_is 3 5)) (zs_is_n (M := 1) (pc := 4) (zd_eq zk1 (by decide +kernel : decode cJ7_fill_53178 4 = .ok (.istore_n 3, 1))) (by decide +kernel) (by decide +kernel)) <|
  zcons (a := (5, zi_il 2 6)) (zs_il_n (M := 1) (pc := 5) (zd_eq zk1 (by decide +kernel : decode cJ7_fill_53178 5 = .ok (.iload_n 2, 1)))) <|
  zcons (a := (6, zi_il 3 7)) (zs_il_n (M := 1) (pc := 6) (zd_eq zk1 (by decide +kernel : decode cJ7_fill_53178 6 = .ok (.iload_n 3, 1)))) <|
  zcons (a := (7, zi_b2 (fun x y => y ≤ x) 20 10)) (zs_icmpge (M := 1) (pc := 7) (zd_eq zk1 (by decide +kernel : decode cJ7_fill_53178 7 = .ok (.if_icmp .ge 13, 3))) (by decide)) <|
  zcons (a := (10, zi_al 0 11)) (zs_al_n (M := 1) (pc := 10) (zd_eq zk1 (by decide +kernel : decode cJ7_fill_53178 10 = .ok (.aload_n 0, 1)))) <|
  zcons (a := (11, zi_il 2 12)) (zs_il_n (M := 1) (pc := 11) (zd_eq zk1 (by decide +kernel : decode cJ7_fill_53178 11 = .ok (.iload_n 2, 1)))) <|
  zcons (a := (12, zi_il 1 13)) (zs_il_n (M := 1) (pc := 12) (zd_eq zk1 (by decide +kernel : decode cJ7_fill_53178 12 = .ok (.iload_n 1, 1)))) <|
  zcons (a := (13, zi_ast 0 (fun x => x) 14)) (zs_iast (M := 1) (pc := 13) (zd_eq zk1 (by decide +kernel : decode cJ7_fill_53178 13 = .ok (.iastore, 1)))) <|
  zcons (a := (14, zi_inc 2 1 17)) (zs_inc (M := 1) (pc := 14) (zd_eq zk1 (by decide +kernel : decode cJ7_fill_53178 14 = .ok (.iinc 2 1, 3))) (by decide) (by decide +kernel) (by decide +kernel)) <|
  zcons (a := (17, zi_go 5)) (zs_goto (M := 1) (pc := 17) (zd_eq zk1 (by decide +kernel : decode cJ7_fill_53178 17 = .ok (.goto (-12), 3))) (by decide)) <|
  zcons (a := (20, zi_rv)) (zs_rv (M := 1) (pc := 20) (zd_eq zk1 (by decide +kernel : decode cJ7_fill_53178 20 = .ok (.return_, 1))) rfl) <| znil
theorem zS1 : ∀ pc, zm_Snd 1 pc (zm_lk2 zm_c1 pc) := zlk2 (zcons2 zS1_0 (znil2))
theorem zS2_0 : ∀ q ∈ zm_c2_0, zm_Snd 2 q.1 q.2 :=
  zcons (a := (0, zi_il 0 1)) (zs_il_n (M := 2) (pc := 0) (zd_eq zk2 (by decide +kernel : decode cJ3_checkIndex_8e157 0 = .ok (.iload_n 0, 1)))) <|
  zcons (a := (1, zi_b1 (fun x => x < 0) 9 4)) (zs_iflt (M := 2) (pc := 1) (zd_eq zk2 (by decide +kernel : decode cJ3_checkIndex_8e157 1 = .ok (.ifCond .lt 8, 3))) (by decide)) <|
  zcons (a := (4, zi_il 0 5)) (zs_il_n (M := 2) (pc := 4) (zd_eq zk2 (by decide +kernel : decode cJ3_checkIndex_8e157 4 = .ok (.iload_n 0, 1)))) <|
  zcons (a := (5, zi_il 1 6)) (zs_il_n (M := 2) (pc := 5) (zd_eq zk2 (by decide +kernel : decode cJ3_checkIndex_8e157 5 = .ok (.iload_n 1, 1)))) <|
  zcons (a := (6, zi_b2 (fun x y => x < y) 16 9)) (zs_icmplt (M := 2) (pc := 6) (zd_eq zk2 (by decide +kernel : decode cJ3_checkIndex_8e157 6 = .ok (.if_icmp .lt 10, 3))) (by decide)) <|
  zcons (a := (16, zi_il 0 17)) (zs_il_n (M := 2) (pc := 16) (zd_eq zk2 (by decide +kernel : decode cJ3_checkIndex_8e157 16 = .ok (.iload_n 0, 1)))) <|
  zcons (a := (17, zi_ri)) (zs_ri (M := 2) (pc := 17) (zd_eq zk2 (by decide +kernel : decode cJ3_checkIndex_8e157 17 = .ok (.ireturn, 1))) rfl) <| znil
theorem zS2 : ∀ pc, zm_Snd 2 pc (zm_lk2 zm_c2 pc) := zlk2 (zcons2 zS2_0 (znil2))
theorem zS3_0 : ∀ q ∈ zm_c3_0, zm_Snd 3 q.1 q.2 :=
  zcons (a := (0, zi_al 0 1)) (zs_al_n (M := 3) (pc := 0) (zd_eq zk3 (by decide +kernel : decode cJ0_charAt_5068e 0 = .ok (.aload_n 0, 1)))) <|
  zcons (a := (1, zi_cw 6 0 4 1)) (zs_cw (M := 3) (pc := 1) (M' := 6) (k := 0) (kd := 1) (zd_eq zk3 (by decide +kernel : decode cJ0_charAt_5068e 1 = .ok (.invokevirtual 492, 3))) zWd6 (zl_m zo3 zy6 zw_345) (zl_i zy6 zw_346) (zl_e zy6 zw_347) zo6) <|
  zcons (a := (4, zi_b1 (fun x => x = 0) 16 7)) (zs_ifeq (M := 3) (pc := 4) (zd_eq zk3 (by decide +kernel : decode cJ0_charAt_5068e 4 = .ok (.ifCond .eq 12, 3))) (by decide)) <|
  zcons (a := (7, zi_al 0 8)) (zs_al_n (M := 3) (pc := 7) (zd_eq zk3 (by decide +kernel : decode cJ0_charAt_5068e 7 = .ok (.aload_n 0, 1)))) <|
  zcons (a := (8, zi_sv 11)) (zs_sv (M := 3) (pc := 8) (zd_eq zk3 (by decide +kernel : decode cJ0_charAt_5068e 8 = .ok (.getfield 9, 3))) (zl_f zo3 zw_1186)) <|
  zcons (a := (11, zi_il 1 12)) (zs_il_n (M := 3) (pc := 11) (zd_eq zk3 (by decide +kernel : decode cJ0_charAt_5068e 11 = .ok (.iload_n 1, 1)))) <|
  zcons (a := (12, zi_cs 8 2 15 1)) (zs_cs (M := 3) (pc := 12) (M' := 8) (k := 2) (kd := 1) (zd_eq zk3 (by decide +kernel : decode cJ0_charAt_5068e 12 = .ok (.invokestatic 495, 3))) zWd8 (zl_m zo3 zy8 zw_349) (zl_s zy8 zw_350)) <|
  zcons (a := (15, zi_rn .char)) (zs_rn (M := 3) (pc := 15) (zd_eq zk3 (by decide +kernel : decode cJ0_charAt_5068e 15 = .ok (.ireturn, 1))) rfl) <|
  zcons (a := (16, zi_al 0 17)) (zs_al_n (M := 3) (pc := 16) (zd_eq zk3 (by decide +kernel : decode cJ0_charAt_5068e 16 = .ok (.aload_n 0, 1)))) <|
  zcons (a := (17, zi_sv 20)) (zs_sv (M := 3) (pc := 17) (zd_eq zk3 (by decide +kernel : decode cJ0_charAt_5068e 17 = .ok (.getfield 9, 3))) (zl_f zo3 zw_1186)) <|
  zcons (a := (20, zi_il 1 21)) (zs_il_n (M := 3) (pc := 20) (zd_eq zk3 (by decide +kernel : decode cJ0_charAt_5068e 20 = .ok (.iload_n 1, 1)))) <| znil
theorem zS3 : ∀ pc, zm_Snd 3 pc (zm_lk2 zm_c3 pc) := zlk2 (zcons2 zS3_0 (znil2))
theorem zS4_0 : ∀ q ∈ zm_c4_0, zm_Snd 4 q.1 q.2 :=
  zcons (a := (0, zi_il 0 1)) (zs_il_n (M := 4) (pc := 0) (zd_eq zk4 (by decide +kernel : decode cJ0_checkIndex_df160 0 = .ok (.iload_n 0, 1)))) <|
  zcons (a := (1, zi_il 1 2)) (zs_il_n (M := 4) (pc := 1) (zd_eq zk4 (by decide +kernel : decode cJ0_checkIndex_df160 1 = .ok (.iload_n 1, 1)))) <|
  zcons (a := (2, zi_k (.retAddr 12) 5)) (zs_fmt (M := 4) (pc := 2) (zd_eq zk4 (by decide +kernel : decode cJ0_checkIndex_df160 2 = .ok (.getstatic 1053, 3))) (zl_f zo4 zw_355)) <|
  zcons (a := (5, zi_cs 2 3 8 1)) (zs_cs (M := 4) (pc := 5) (M' := 2) (k := 3) (kd := 1) (zd_eq zk4 (by decide +kernel : decode cJ0_checkIndex_df160 5 = .ok (.invokestatic 1059, 3))) zWd2 (zl_m zo4 zy2 zw_357) (zl_s zy2 zw_358)) <|
  zcons (a := (8, zi_pop 9)) (zs_pop (M := 4) (pc := 8) (zd_eq zk4 (by decide +kernel : decode cJ0_checkIndex_df160 8 = .ok (.pop, 1)))) <|
  zcons (a := (9, zi_rv)) (zs_rv (M := 4) (pc := 9) (zd_eq zk4 (by decide +kernel : decode cJ0_checkIndex_df160 9 = .ok (.return_, 1))) rfl) <| znil
theorem zS4 : ∀ pc, zm_Snd 4 pc (zm_lk2 zm_c4 pc) := zlk2 (zcons2 zS4_0 (znil2))
theorem zS5_0 : ∀ q ∈ zm_c5_0, zm_Snd 5 q.1 q.2 :=
  zcons (a := (0, zi_k (.int 1) 3)) (zs_compact (M := 5) (pc := 0) (zd_eq zk5 (by decide +kernel : decode cJ0_coder_7d493 0 = .ok (.getstatic 38, 3))) (zl_f zo5 zw_339)) <|
  zcons (a := (3, zi_b1 (fun x => x = 0) 13 6)) (zs_ifeq (M := 5) (pc := 3) (zd_eq zk5 (by decide +kernel : decode cJ0_coder_7d493 3 = .ok (.ifCond .eq 10, 3))) (by decide)) <|
  zcons (a := (6, zi_al 0 7)) (zs_al_n (M := 5) (pc := 6) (zd_eq zk5 (by decide +kernel : decode cJ0_coder_7d493 6 = .ok (.aload_n 0, 1)))) <|
  zcons (a := (7, zi_sc 10)) (zs_sc (M := 5) (pc := 7) (zd_eq zk5 (by decide +kernel : decode cJ0_coder_7d493 7 = .ok (.getfield 15, 3))) (zl_f zo5 zw_1187)) <|
  zcons (a := (10, zi_go 14)) (zs_goto (M := 5) (pc := 10) (zd_eq zk5 (by decide +kernel : decode cJ0_coder_7d493 10 = .ok (.goto 4, 3))) (by decide)) <|
  zcons (a := (13, zi_k (.int 1) 14)) (zs_iconst (M := 5) (pc := 13) (zd_eq zk5 (by decide +kernel : decode cJ0_coder_7d493 13 = .ok (.iconst 1, 1))) (by decide)) <|
  zcons (a := (14, zi_rn .byte)) (zs_rn (M := 5) (pc := 14) (zd_eq zk5 (by decide +kernel : decode cJ0_coder_7d493 14 = .ok (.ireturn, 1))) rfl) <| znil
theorem zS5 : ∀ pc, zm_Snd 5 pc (zm_lk2 zm_c5 pc) := zlk2 (zcons2 zS5_0 (znil2))
theorem zS6_0 : ∀ q ∈ zm_c6_0, zm_Snd 6 q.1 q.2 :=
  zcons (a := (0, zi_k (.int 1) 3)) (zs_compact (M := 6) (pc := 0) (zd_eq zk6 (by decide +kernel : decode cJ0_isLatin1_aae02 0 = .ok (.getstatic 38, 3))) (zl_f zo6 zw_339)) <|
  zcons (a := (3, zi_b1 (fun x => x = 0) 17 6)) (zs_ifeq (M := 6) (pc := 3) (zd_eq zk6 (by decide +kernel : decode cJ0_isLatin1_aae02 3 = .ok (.ifCond .eq 14, 3))) (by decide)) <|
  zcons (a := (6, zi_al 0 7)) (zs_al_n (M := 6) (pc := 6) (zd_eq zk6 (by decide +kernel : decode cJ0_isLatin1_aae02 6 = .ok (.aload_n 0, 1)))) <|
  zcons (a := (7, zi_sc 10)) (zs_sc (M := 6) (pc := 7) (zd_eq zk6 (by decide +kernel : decode cJ0_isLatin1_aae02 7 = .ok (.getfield 15, 3))) (zl_f zo6 zw_1187)) <|
  zcons (a := (10, zi_b1 (fun x => ¬ x = 0) 17 13)) (zs_ifne (M := 6) (pc := 10) (zd_eq zk6 (by decide +kernel : decode cJ0_isLatin1_aae02 10 = .ok (.ifCond .ne 7, 3))) (by decide)) <|
  zcons (a := (13, zi_k (.int 1) 14)) (zs_iconst (M := 6) (pc := 13) (zd_eq zk6 (by decide +kernel : decode cJ0_isLatin1_aae02 13 = .ok (.iconst 1, 1))) (by decide)) <|
  zcons (a := (14, zi_go 18)) (zs_goto (M := 6) (pc := 14) (zd_eq zk6 (by decide +kernel : decode cJ0_isLatin1_aae02 14 = .ok (.goto 4, 3))) (by decide)) <|
  zcons (a := (17, zi_k (.int 0) 18)) (zs_iconst (M := 6) (pc := 17) (zd_eq zk6 (by decide +kernel : decode cJ0_isLatin1_aae02 17 = .ok (.iconst 0, 1))) (by decide)) <|
  zcons (a := (18, zi_rz)) (zs_rz (M := 6) (pc := 18) (zd_eq zk6 (by decide +kernel : decode cJ0_isLatin1_aae02 18 = .ok (.ireturn, 1))) rfl) <| znil
theorem zS6 : ∀ pc, zm_Snd 6 pc (zm_lk2 zm_c6 pc) := zlk2 (zcons2 zS6_0 (znil2))
theorem zS7_0 : ∀ q ∈ zm_c7_0, zm_Snd 7 q.1 q.2 :=
  zcons (a := (0, zi_al 0 1)) (zs_al_n (M := 7) (pc := 0) (zd_eq zk7 (by decide +kernel : decode cJ0_length_8abf5 0 = .ok (.aload_n 0, 1)))) <|
  zcons (a := (1, zi_sv 4)) (zs_sv (M := 7) (pc := 1) (zd_eq zk7 (by decide +kernel : decode cJ0_length_8abf5 1 = .ok (.getfield 9, 3))) (zl_f zo7 zw_1186)) <|
  zcons (a := (4, zi_vl 5)) (zs_vl (M := 7) (pc := 4) (zd_eq zk7 (by decide +kernel : decode cJ0_length_8abf5 4 = .ok (.arraylength, 1)))) <|
  zcons (a := (5, zi_al 0 6)) (zs_al_n (M := 7) (pc := 5) (zd_eq zk7 (by decide +kernel : decode cJ0_length_8abf5 5 = .ok (.aload_n 0, 1)))) <|
  zcons (a := (6, zi_cw 5 0 9 1)) (zs_cw (M := 7) (pc := 6) (M' := 5) (k := 0) (kd := 1) (zd_eq zk7 (by decide +kernel : decode cJ0_length_8abf5 6 = .ok (.invokevirtual 335, 3))) zWd5 (zl_m zo7 zy5 zw_335) (zl_i zy5 zw_336) (zl_e zy5 zw_337) zo5) <|
  zcons (a := (9, zi_bin (fun x y => x >>> (y &&& 31)) 10)) (zs_ishr (M := 7) (pc := 9) (zd_eq zk7 (by decide +kernel : decode cJ0_length_8abf5 9 = .ok (.ishr, 1)))) <|
  zcons (a := (10, zi_ri)) (zs_ri (M := 7) (pc := 10) (zd_eq zk7 (by decide +kernel : decode cJ0_length_8abf5 10 = .ok (.ireturn, 1))) rfl) <| znil
theorem zS7 : ∀ pc, zm_Snd 7 pc (zm_lk2 zm_c7 pc) := zlk2 (zcons2 zS7_0 (znil2))
theorem zS8_0 : ∀ q ∈ zm_c8_0, zm_Snd 8 q.1 q.2 :=
  zcons (a := (0, zi_il 1 1)) (zs_il_n (M := 8) (pc := 0) (zd_eq zk8 (by decide +kernel : decode cJ1_charAt_3b067 0 = .ok (.iload_n 1, 1)))) <|
  zcons (a := (1, zi_al 0 2)) (zs_al_n (M := 8) (pc := 1) (zd_eq zk8 (by decide +kernel : decode cJ1_charAt_3b067 1 = .ok (.aload_n 0, 1)))) <|
  zcons (a := (2, zi_vl 3)) (zs_vl (M := 8) (pc := 2) (zd_eq zk8 (by decide +kernel : decode cJ1_charAt_3b067 2 = .ok (.arraylength, 1)))) <|
  zcons (a := (3, zi_cs 4 2 6 0)) (zs_cs (M := 8) (pc := 3) (M' := 4) (k := 2) (kd := 0) (zd_eq zk8 (by decide +kernel : decode cJ1_charAt_3b067 3 = .ok (.invokestatic 9, 3))) zWd4 (zl_m zo8 zy4 zw_352) (zl_s zy4 zw_353)) <|
  zcons (a := (6, zi_al 0 7)) (zs_al_n (M := 8) (pc := 6) (zd_eq zk8 (by decide +kernel : decode cJ1_charAt_3b067 6 = .ok (.aload_n 0, 1)))) <|
  zcons (a := (7, zi_il 1 8)) (zs_il_n (M := 8) (pc := 7) (zd_eq zk8 (by decide +kernel : decode cJ1_charAt_3b067 7 = .ok (.iload_n 1, 1)))) <|
  zcons (a := (8, zi_vb 9)) (zs_vb (M := 8) (pc := 8) (zd_eq zk8 (by decide +kernel : decode cJ1_charAt_3b067 8 = .ok (.baload, 1)))) <|
  zcons (a := (9, zi_k (.int 255) 12)) (zs_sipush (M := 8) (pc := 9) (zd_eq zk8 (by decide +kernel : decode cJ1_charAt_3b067 9 = .ok (.sipush 255, 3))) (by decide)) <|
  zcons (a := (12, zi_bin (· &&& ·) 13)) (zs_iand (M := 8) (pc := 12) (zd_eq zk8 (by decide +kernel : decode cJ1_charAt_3b067 12 = .ok (.iand, 1)))) <|
  zcons (a := (13, zi_un (fun x => (x.toUInt32 % 65536).toInt32) 14)) (zs_i2c (M := 8) (pc := 13) (zd_eq zk8 (by decide +kernel : decode cJ1_charAt_3b067 13 = .ok (.i2c, 1)))) <|
  zcons (a := (14, zi_rn .char)) (zs_rn (M := 8) (pc := 14) (zd_eq zk8 (by decide +kernel : decode cJ1_charAt_3b067 14 = .ok (.ireturn, 1))) rfl) <| znil
theorem zS8 : ∀ pc, zm_Snd 8 pc (zm_lk2 zm_c8 pc) := zlk2 (zcons2 zS8_0 (znil2))
theorem zS9_0 : ∀ q ∈ zm_c9_0, zm_Snd 9 q.1 q.2 :=
  zcons (a := (0, zi_al 0 1)) (zs_al_n (M := 9) (pc := 0) (zd_eq zk9 (by decide +kernel : decode cX0_init 0 = .ok (.aload_n 0, 1)))) <|
  zcons (a := (1, zi_oi 4)) (zs_oi (M := 9) (pc := 1) (zd_eq zk9 (by decide +kernel : decode cX0_init 1 = .ok (.invokespecial 3, 3))) (zl_mo zo9 zw_91) zw_71 zw_72) <|
  zcons (a := (4, zi_rv)) (zs_rv (M := 9) (pc := 4) (zd_eq zk9 (by decide +kernel : decode cX0_init 4 = .ok (.return_, 1))) rfl) <| znil
theorem zS9 : ∀ pc, zm_Snd 9 pc (zm_lk2 zm_c9 pc) := zlk2 (zcons2 zS9_0 (znil2))
theorem zS10_0 : ∀ q ∈ zm_c10_0, zm_Snd 10 q.1 q.2 :=
  zcons (a := (0, zi_al 0 1)) (zs_al_n (M := 10) (pc := 0) (zd_eq zk10 (by decide +kernel : decode cX0_copyOf 0 = .ok (.aload_n 0, 1)))) <|
  zcons (a := (1, zi_al 1 2)) (zs_al_n (M := 10) (pc := 1) (zd_eq zk10 (by decide +kernel : decode cX0_copyOf 1 = .ok (.aload_n 1, 1)))) <|
  zcons (a := (2, zi_gi 0 0 5)) (zs_gi (M := 10) (pc := 2) (n := 0) (ci := 0) (k := 0) (C := RX0) (T := TX0) (N := 3) (zd_eq zk10 (by decide +kernel : decode cX0_copyOf 2 = .ok (.getfield 9, 3))) rfl (by decide) (by decide) zin_0 (zl_f zo10 zw_92)) <|
  zcons (a := (5, zi_pf 0 0 8)) (zs_pf (M := 10) (pc := 5) (ci := 0) (k := 0) (C := RX0) (T := TX0) (N := 3) (ty0 := tyX0) (zd_eq zk10 (by decide +kernel : decode cX0_copyOf 5 = .ok (.putfield 9, 3))) rfl (by decide) (by decide) zin_0 (zl_f zo10 zw_92) tyX0_ok nmX0 rfl (tyX0_ok 0 (by decide))) <|
  zcons (a := (8, zi_al 0 9)) (zs_al_n (M := 10) (pc := 8) (zd_eq zk10 (by decide +kernel : decode cX0_copyOf 8 = .ok (.aload_n 0, 1)))) <|
  zcons (a := (9, zi_al 1 10)) (zs_al_n (M := 10) (pc := 9) (zd_eq zk10 (by decide +kernel : decode cX0_copyOf 9 = .ok (.aload_n 1, 1)))) <|
  zcons (a := (10, zi_gi 0 1 13)) (zs_gi (M := 10) (pc := 10) (n := 0) (ci := 0) (k := 1) (C := RX0) (T := TX0) (N := 3) (zd_eq zk10 (by decide +kernel : decode cX0_copyOf 10 = .ok (.getfield 15, 3))) rfl (by decide) (by decide) zin_0 (zl_f zo10 zw_95)) <|
  zcons (a := (13, zi_pf 0 1 16)) (zs_pf (M := 10) (pc := 13) (ci := 0) (k := 1) (C := RX0) (T := TX0) (N := 3) (ty0 := tyX0) (zd_eq zk10 (by decide +kernel : decode cX0_copyOf 13 = .ok (.putfield 15, 3))) rfl (by decide) (by decide) zin_0 (zl_f zo10 zw_95) tyX0_ok nmX0 rfl (tyX0_ok 1 (by decide))) <|
  zcons (a := (16, zi_al 0 17)) (zs_al_n (M := 10) (pc := 16) (zd_eq zk10 (by decide +kernel : decode cX0_copyOf 16 = .ok (.aload_n 0, 1)))) <|
  zcons (a := (17, zi_al 1 18)) (zs_al_n (M := 10) (pc := 17) (zd_eq zk10 (by decide +kernel : decode cX0_copyOf 17 = .ok (.aload_n 1, 1)))) <|
  zcons (a := (18, zi_gi 0 2 21)) (zs_gi (M := 10) (pc := 18) (n := 0) (ci := 0) (k := 2) (C := RX0) (T := TX0) (N := 3) (zd_eq zk10 (by decide +kernel : decode cX0_copyOf 18 = .ok (.getfield 18, 3))) rfl (by decide) (by decide) zin_0 (zl_f zo10 zw_98)) <|
  zcons (a := (21, zi_pf 0 2 24)) (zs_pf (M := 10) (pc := 21) (ci := 0) (k := 2) (C := RX0) (T := TX0) (N := 3) (ty0 := tyX0) (zd_eq zk10 (by decide +kernel : decode cX0_copyOf 21 = .ok (.putfield 18, 3))) rfl (by decide) (by decide) zin_0 (zl_f zo10 zw_98) tyX0_ok nmX0 rfl (tyX0_ok 2 (by decide))) <|
  zcons (a := (24, zi_rv)) (zs_rv (M := 10) (pc := 24) (zd_eq zk10 (by decide +kernel : decode cX0_copyOf 24 = .ok (.return_, 1))) rfl) <| znil
theorem zS10 : ∀ pc, zm_Snd 10 pc (zm_lk2 zm_c10 pc) := zlk2 (zcons2 zS10_0 (znil2))
theorem zS11_0 : ∀ q ∈ zm_c11_0, zm_Snd 11 q.1 q.2 :=
  zcons (a := (0, zi_il 1 1)) (zs_il_n (M := 11) (pc := 0) (zd_eq zk11 (by decide +kernel : decode cX0_tell 0 = .ok (.iload_n 1, 1)))) <|
  zcons (a := (1, zi_b1 (fun x => ¬ x = 0) 9 4)) (zs_ifne (M := 11) (pc := 1) (zd_eq zk11 (by decide +kernel : decode cX0_tell 1 = .ok (.ifCond .ne 8, 3))) (by decide)) <|
  zcons (a := (4, zi_al 0 5)) (zs_al_n (M := 11) (pc := 4) (zd_eq zk11 (by decide +kernel : decode cX0_tell 4 = .ok (.aload_n 0, 1)))) <|
  zcons (a := (5, zi_gi 0 0 8)) (zs_gi (M := 11) (pc := 5) (n := 0) (ci := 0) (k := 0) (C := RX0) (T := TX0) (N := 3) (zd_eq zk11 (by decide +kernel : decode cX0_tell 5 = .ok (.getfield 9, 3))) rfl (by decide) (by decide) zin_0 (zl_f zo11 zw_92)) <|
  zcons (a := (8, zi_ri)) (zs_ri (M := 11) (pc := 8) (zd_eq zk11 (by decide +kernel : decode cX0_tell 8 = .ok (.ireturn, 1))) rfl) <|
  zcons (a := (9, zi_il 1 10)) (zs_il_n (M := 11) (pc := 9) (zd_eq zk11 (by decide +kernel : decode cX0_tell 9 = .ok (.iload_n 1, 1)))) <|
  zcons (a := (10, zi_k (.int 1) 11)) (zs_iconst (M := 11) (pc := 10) (zd_eq zk11 (by decide +kernel : decode cX0_tell 10 = .ok (.iconst 1, 1))) (by decide)) <|
  zcons (a := (11, zi_b2 (fun x y => ¬ x = y) 21 14)) (zs_icmpne (M := 11) (pc := 11) (zd_eq zk11 (by decide +kernel : decode cX0_tell 11 = .ok (.if_icmp .ne 10, 3))) (by decide)) <|
  zcons (a := (14, zi_al 0 15)) (zs_al_n (M := 11) (pc := 14) (zd_eq zk11 (by decide +kernel : decode cX0_tell 14 = .ok (.aload_n 0, 1)))) <|
  zcons (a := (15, zi_gi 0 1 18)) (zs_gi (M := 11) (pc := 15) (n := 0) (ci := 0) (k := 1) (C := RX0) (T := TX0) (N := 3) (zd_eq zk11 (by decide +kernel : decode cX0_tell 15 = .ok (.getfield 15, 3))) rfl (by decide) (by decide) zin_0 (zl_f zo11 zw_95)) <|
  zcons (a := (18, zi_go 25)) (zs_goto (M := 11) (pc := 18) (zd_eq zk11 (by decide +kernel : decode cX0_tell 18 = .ok (.goto 7, 3))) (by decide)) <|
  zcons (a := (21, zi_al 0 22)) (zs_al_n (M := 11) (pc := 21) (zd_eq zk11 (by decide +kernel : decode cX0_tell 21 = .ok (.aload_n 0, 1)))) <|
  zcons (a := (22, zi_gi 0 2 25)) (zs_gi (M := 11) (pc := 22) (n := 0) (ci := 0) (k := 2) (C := RX0) (T := TX0) (N := 3) (zd_eq zk11 (by decide +kernel : decode cX0_tell 22 = .ok (.getfield 18, 3))) rfl (by decide) (by decide) zin_0 (zl_f zo11 zw_98)) <|
  zcons (a := (25, zi_ri)) (zs_ri (M := 11) (pc := 25) (zd_eq zk11 (by decide +kernel : decode cX0_tell 25 = .ok (.ireturn, 1))) rfl) <| znil
theorem zS11 : ∀ pc, zm_Snd 11 pc (zm_lk2 zm_c11 pc) := zlk2 (zcons2 zS11_0 (znil2))
theorem zS12_0 : ∀ q ∈ zm_c12_0, zm_Snd 12 q.1 q.2 :=
  zcons (a := (0, zi_il 1 1)) (zs_il_n (M := 12) (pc := 0) (zd_eq zk12 (by decide +kernel : decode cX0_put 0 = .ok (.iload_n 1, 1)))) <|
  zcons (a := (1, zi_b1 (fun x => ¬ x = 0) 12 4)) (zs_ifne (M := 12) (pc := 1) (zd_eq zk12 (by decide +kernel : decode cX0_put 1 = .ok (.ifCond .ne 11, 3))) (by decide)) <|
  zcons (a := (4, zi_al 0 5)) (zs_al_n (M := 12) (pc := 4) (zd_eq zk12 (by decide +kernel : decode cX0_put 4 = .ok (.aload_n 0, 1)))) <|
  zcons (a := (5, zi_il 2 6)) (zs_il_n (M := 12) (pc := 5) (zd_eq zk12 (by decide +kernel : decode cX0_put 5 = .ok (.iload_n 2, 1)))) <|
  zcons (a := (6, zi_pf 0 0 9)) (zs_pf (M := 12) (pc := 6) (ci := 0) (k := 0) (C := RX0) (T := TX0) (N := 3) (ty0 := tyX0) (zd_eq zk12 (by decide +kernel : decode cX0_put 6 = .ok (.putfield 9, 3))) rfl (by decide) (by decide) zin_0 (zl_f zo12 zw_92) tyX0_ok nmX0 rfl (tyX0_ok 0 (by decide))) <|
  zcons (a := (9, zi_go 30)) (zs_goto (M := 12) (pc := 9) (zd_eq zk12 (by decide +kernel : decode cX0_put 9 = .ok (.goto 21, 3))) (by decide)) <|
  zcons (a := (12, zi_il 1 13)) (zs_il_n (M := 12) (pc := 12) (zd_eq zk12 (by decide +kernel : decode cX0_put 12 = .ok (.iload_n 1, 1)))) <|
  zcons (a := (13, zi_k (.int 1) 14)) (zs_iconst (M := 12) (pc := 13) (zd_eq zk12 (by decide +kernel : decode cX0_put 13 = .ok (.iconst 1, 1))) (by decide)) <|
  zcons (a := (14, zi_b2 (fun x y => ¬ x = y) 25 17)) (zs_icmpne (M := 12) (pc := 14) (zd_eq zk12 (by decide +kernel : decode cX0_put 14 = .ok (.if_icmp .ne 11, 3))) (by decide)) <|
  zcons (a := (17, zi_al 0 18)) (zs_al_n (M := 12) (pc := 17) (zd_eq zk12 (by decide +kernel : decode cX0_put 17 = .ok (.aload_n 0, 1)))) <|
  zcons (a := (18, zi_il 2 19)) (zs_il_n (M := 12) (pc := 18) (zd_eq zk12 (by decide +kernel : decode cX0_put 18 = .ok (.iload_n 2, 1)))) <|
  zcons (a := (19, zi_pf 0 1 22)) (zs_pf (M := 12) (pc := 19) (ci := 0) (k := 1) (C := RX0) (T := TX0) (N := 3) (ty0 := tyX0) (zd_eq zk12 (by decide +kernel : decode cX0_put 19 = .ok (.putfield 15, 3))) rfl (by decide) (by decide) zin_0 (zl_f zo12 zw_95) tyX0_ok nmX0 rfl (tyX0_ok 1 (by decide))) <|
  zcons (a := (22, zi_go 30)) (zs_goto (M := 12) (pc := 22) (zd_eq zk12 (by decide +kernel : decode cX0_put 22 = .ok (.goto 8, 3))) (by decide)) <|
  zcons (a := (25, zi_al 0 26)) (zs_al_n (M := 12) (pc := 25) (zd_eq zk12 (by decide +kernel : decode cX0_put 25 = .ok (.aload_n 0, 1)))) <|
  zcons (a := (26, zi_il 2 27)) (zs_il_n (M := 12) (pc := 26) (zd_eq zk12 (by decide +kernel : decode cX0_put 26 = .ok (.iload_n 2, 1)))) <|
  zcons (a := (27, zi_pf 0 2 30)) (zs_pf (M := 12) (pc := 27) (ci := 0) (k := 2) (C := RX0) (T := TX0) (N := 3) (ty0 := tyX0) (zd_eq zk12 (by decide +kernel : decode cX0_put 27 = .ok (.putfield 18, 3))) rfl (by decide) (by decide) zin_0 (zl_f zo12 zw_98) tyX0_ok nmX0 rfl (tyX0_ok 2 (by decide))) <|
  zcons (a := (30, zi_rv)) (zs_rv (M := 12) (pc := 30) (zd_eq zk12 (by decide +kernel : decode cX0_put 30 = .ok (.return_, 1))) rfl) <| znil
theorem zS12 : ∀ pc, zm_Snd 12 pc (zm_lk2 zm_c12 pc) := zlk2 (zcons2 zS12_0 (znil2))
theorem zS13_0 : ∀ q ∈ zm_c13_0, zm_Snd 13 q.1 q.2 :=
  zcons (a := (0, zi_al 0 1)) (zs_al_n (M := 13) (pc := 0) (zd_eq zk13 (by decide +kernel : decode cX0_stands 0 = .ok (.aload_n 0, 1)))) <|
  zcons (a := (1, zi_gi 0 1 4)) (zs_gi (M := 13) (pc := 1) (n := 0) (ci := 0) (k := 1) (C := RX0) (T := TX0) (N := 3) (zd_eq zk13 (by decide +kernel : decode cX0_stands 1 = .ok (.getfield 15, 3))) rfl (by decide) (by decide) zin_0 (zl_f zo13 zw_95)) <|
  zcons (a := (4, zi_b1 (fun x => x ≤ 0) 11 7)) (zs_ifle (M := 13) (pc := 4) (zd_eq zk13 (by decide +kernel : decode cX0_stands 4 = .ok (.ifCond .le 7, 3))) (by decide)) <|
  zcons (a := (7, zi_k (.int 1) 8)) (zs_iconst (M := 13) (pc := 7) (zd_eq zk13 (by decide +kernel : decode cX0_stands 7 = .ok (.iconst 1, 1))) (by decide)) <|
  zcons (a := (8, zi_go 12)) (zs_goto (M := 13) (pc := 8) (zd_eq zk13 (by decide +kernel : decode cX0_stands 8 = .ok (.goto 4, 3))) (by decide)) <|
  zcons (a := (11, zi_k (.int 0) 12)) (zs_iconst (M := 13) (pc := 11) (zd_eq zk13 (by decide +kernel : decode cX0_stands 11 = .ok (.iconst 0, 1))) (by decide)) <|
  zcons (a := (12, zi_rz)) (zs_rz (M := 13) (pc := 12) (zd_eq zk13 (by decide +kernel : decode cX0_stands 12 = .ok (.ireturn, 1))) rfl) <| znil
theorem zS13 : ∀ pc, zm_Snd 13 pc (zm_lk2 zm_c13 pc) := zlk2 (zcons2 zS13_0 (znil2))
theorem zS14_0 : ∀ q ∈ zm_c14_0, zm_Snd 14 q.1 q.2 :=
  zcons (a := (0, zi_al 0 1)) (zs_al_n (M := 14) (pc := 0) (zd_eq zk14 (by decide +kernel : decode cX0_halve 0 = .ok (.aload_n 0, 1)))) <|
  zcons (a := (1, zi_dup 2)) (zs_dup (M := 14) (pc := 1) (zd_eq zk14 (by decide +kernel : decode cX0_halve 1 = .ok (.dup, 1)))) <|
  zcons (a := (2, zi_gi 0 1 5)) (zs_gi (M := 14) (pc := 2) (n := 0) (ci := 0) (k := 1) (C := RX0) (T := TX0) (N := 3) (zd_eq zk14 (by decide +kernel : decode cX0_halve 2 = .ok (.getfield 15, 3))) rfl (by decide) (by decide) zin_0 (zl_f zo14 zw_95)) <|
  zcons (a := (5, zi_k (.int 2) 6)) (zs_iconst (M := 14) (pc := 5) (zd_eq zk14 (by decide +kernel : decode cX0_halve 5 = .ok (.iconst 2, 1))) (by decide)) <|
  zcons (a := (6, zi_div 7)) (zs_idiv (M := 14) (pc := 6) (zd_eq zk14 (by decide +kernel : decode cX0_halve 6 = .ok (.idiv, 1)))) <|
  zcons (a := (7, zi_pf 0 1 10)) (zs_pf (M := 14) (pc := 7) (ci := 0) (k := 1) (C := RX0) (T := TX0) (N := 3) (ty0 := tyX0) (zd_eq zk14 (by decide +kernel : decode cX0_halve 7 = .ok (.putfield 15, 3))) rfl (by decide) (by decide) zin_0 (zl_f zo14 zw_95) tyX0_ok nmX0 rfl (tyX0_ok 1 (by decide))) <|
  zcons (a := (10, zi_rv)) (zs_rv (M := 14) (pc := 10) (zd_eq zk14 (by decide +kernel : decode cX0_halve 10 = .ok (.return_, 1))) rfl) <| znil
theorem zS14 : ∀ pc, zm_Snd 14 pc (zm_lk2 zm_c14 pc) := zlk2 (zcons2 zS14_0 (znil2))
theorem zS15_0 : ∀ q ∈ zm_c15_0, zm_Snd 15 q.1 q.2 :=
  zcons (a := (0, zi_il 1 1)) (zs_il_n (M := 15) (pc := 0) (zd_eq zk15 (by decide +kernel : decode cX0_meltsBy 0 = .ok (.iload_n 1, 1)))) <|
  zcons (a := (1, zi_is 2 2)) (zs_is_n (M := 15) (pc := 1) (zd_eq zk15 (by decide +kernel : decode cX0_meltsBy 1 = .ok (.istore_n 2, 1))) (by decide +kernel) (by decide +kernel)) <|
  zcons (a := (2, zi_al 0 3)) (zs_al_n (M := 15) (pc := 2) (zd_eq zk15 (by decide +kernel : decode cX0_meltsBy 2 = .ok (.aload_n 0, 1)))) <|
  zcons (a := (3, zi_gi 0 0 6)) (zs_gi (M := 15) (pc := 3) (n := 0) (ci := 0) (k := 0) (C := RX0) (T := TX0) (N := 3) (zd_eq zk15 (by decide +kernel : decode cX0_meltsBy 3 = .ok (.getfield 9, 3))) rfl (by decide) (by decide) zin_0 (zl_f zo15 zw_92)) <|
  zcons (a := (6, zi_k (.int 1) 7)) (zs_iconst (M := 15) (pc := 6) (zd_eq zk15 (by decide +kernel : decode cX0_meltsBy 6 = .ok (.iconst 1, 1))) (by decide)) <|
  zcons (a := (7, zi_b2 (fun x y => ¬ x = y) 17 10)) (zs_icmpne (M := 15) (pc := 7) (zd_eq zk15 (by decide +kernel : decode cX0_meltsBy 7 = .ok (.if_icmp .ne 10, 3))) (by decide)) <|
  zcons (a := (10, zi_il 1 11)) (zs_il_n (M := 15) (pc := 10) (zd_eq zk15 (by decide +kernel : decode cX0_meltsBy 10 = .ok (.iload_n 1, 1)))) <|
  zcons (a := (11, zi_k (.int 2) 12)) (zs_iconst (M := 15) (pc := 11) (zd_eq zk15 (by decide +kernel : decode cX0_meltsBy 11 = .ok (.iconst 2, 1))) (by decide)) <|
  zcons (a := (12, zi_div 13)) (zs_idiv (M := 15) (pc := 12) (zd_eq zk15 (by decide +kernel : decode cX0_meltsBy 12 = .ok (.idiv, 1)))) <|
  zcons (a := (13, zi_is 2 14)) (zs_is_n (M := 15) (pc := 13) (zd_eq zk15 (by decide +kernel : decode cX0_meltsBy 13 = .ok (.istore_n 2, 1))) (by decide +kernel) (by decide +kernel)) <|
  zcons (a := (14, zi_go 55)) (zs_goto (M := 15) (pc := 14) (zd_eq zk15 (by decide +kernel : decode cX0_meltsBy 14 = .ok (.goto 41, 3))) (by decide)) <|
  zcons (a := (17, zi_al 0 18)) (zs_al_n (M := 15) (pc := 17) (zd_eq zk15 (by decide +kernel : decode cX0_meltsBy 17 = .ok (.aload_n 0, 1)))) <|
  zcons (a := (18, zi_gi 0 0 21)) (zs_gi (M := 15) (pc := 18) (n := 0) (ci := 0) (k := 0) (C := RX0) (T := TX0) (N := 3) (zd_eq zk15 (by decide +kernel : decode cX0_meltsBy 18 = .ok (.getfield 9, 3))) rfl (by decide) (by decide) zin_0 (zl_f zo15 zw_92)) <|
  zcons (a := (21, zi_k (.int 2) 22)) (zs_iconst (M := 15) (pc := 21) (zd_eq zk15 (by decide +kernel : decode cX0_meltsBy 21 = .ok (.iconst 2, 1))) (by decide)) <|
  zcons (a := (22, zi_b2 (fun x y => ¬ x = y) 32 25)) (zs_icmpne (M := 15) (pc := 22) (zd_eq zk15 (by decide +kernel : decode cX0_meltsBy 22 = .ok (.if_icmp .ne 10, 3))) (by decide)) <|
  zcons (a := (25, zi_k (.int 2) 26)) (zs_iconst (M := 15) (pc := 25) (zd_eq zk15 (by decide +kernel : decode cX0_meltsBy 25 = .ok (.iconst 2, 1))) (by decide)) <|
  zcons (a := (26, zi_il 1 27)) (zs_il_n (M := 15) (pc := 26) (zd_eq zk15 (by decide +kernel : decode cX0_meltsBy 26 = .ok (.iload_n 1, 1)))) <|
  zcons (a := (27, zi_bin (· * ·) 28)) (zs_imul (M := 15) (pc := 27) (zd_eq zk15 (by decide +kernel : decode cX0_meltsBy 27 = .ok (.imul, 1)))) <|
  zcons (a := (28, zi_is 2 29)) (zs_is_n (M := 15) (pc := 28) (zd_eq zk15 (by decide +kernel : decode cX0_meltsBy 28 = .ok (.istore_n 2, 1))) (by decide +kernel) (by decide +kernel)) <|
  zcons (a := (29, zi_go 55)) (zs_goto (M := 15) (pc := 29) (zd_eq zk15 (by decide +kernel : decode cX0_meltsBy 29 = .ok (.goto 26, 3))) (by decide)) <|
  zcons (a := (32, zi_al 0 33)) (zs_al_n (M := 15) (pc := 32) (zd_eq zk15 (by decide +kernel : decode cX0_meltsBy 32 = .ok (.aload_n 0, 1)))) <|
  zcons (a := (33, zi_gi 0 0 36)) (zs_gi (M := 15) (pc := 33) (n := 0) (ci := 0) (k := 0) (C := RX0) (T := TX0) (N := 3) (zd_eq zk15 (by decide +kernel : decode cX0_meltsBy 33 = .ok (.getfield 9, 3))) rfl (by decide) (by decide) zin_0 (zl_f zo15 zw_92)) <|
  zcons (a := (36, zi_k (.int 3) 37)) (zs_iconst (M := 15) (pc := 36) (zd_eq zk15 (by decide +kernel : decode cX0_meltsBy 36 = .ok (.iconst 3, 1))) (by decide)) <|
  zcons (a := (37, zi_b2 (fun x y => ¬ x = y) 55 40)) (zs_icmpne (M := 15) (pc := 37) (zd_eq zk15 (by decide +kernel : decode cX0_meltsBy 37 = .ok (.if_icmp .ne 18, 3))) (by decide)) <| znil
theorem zS15_1 : ∀ q ∈ zm_c15_1, zm_Snd 15 q.1 q.2 :=
  zcons (a := (40, zi_il 1 41)) (zs_il_n (M := 15) (pc := 40) (zd_eq zk15 (by decide +kernel : decode cX0_meltsBy 40 = .ok (.iload_n 1, 1)))) <|
  zcons (a := (41, zi_k (.int 2) 42)) (zs_iconst (M := 15) (pc := 41) (zd_eq zk15 (by decide +kernel : decode cX0_meltsBy 41 = .ok (.iconst 2, 1))) (by decide)) <|
  zcons (a := (42, zi_b2 (fun x y => y ≤ x) 49 45)) (zs_icmpge (M := 15) (pc := 42) (zd_eq zk15 (by decide +kernel : decode cX0_meltsBy 42 = .ok (.if_icmp .ge 7, 3))) (by decide)) <|
  zcons (a := (45, zi_k (.int 0) 46)) (zs_iconst (M := 15) (pc := 45) (zd_eq zk15 (by decide +kernel : decode cX0_meltsBy 45 = .ok (.iconst 0, 1))) (by decide)) <|
  zcons (a := (46, zi_go 54)) (zs_goto (M := 15) (pc := 46) (zd_eq zk15 (by decide +kernel : decode cX0_meltsBy 46 = .ok (.goto 8, 3))) (by decide)) <|
  zcons (a := (49, zi_il 1 50)) (zs_il_n (M := 15) (pc := 49) (zd_eq zk15 (by decide +kernel : decode cX0_meltsBy 49 = .ok (.iload_n 1, 1)))) <|
  zcons (a := (50, zi_k (.int 2) 51)) (zs_iconst (M := 15) (pc := 50) (zd_eq zk15 (by decide +kernel : decode cX0_meltsBy 50 = .ok (.iconst 2, 1))) (by decide)) <|
  zcons (a := (51, zi_div 52)) (zs_idiv (M := 15) (pc := 51) (zd_eq zk15 (by decide +kernel : decode cX0_meltsBy 51 = .ok (.idiv, 1)))) <|
  zcons (a := (52, zi_k (.int 1) 53)) (zs_iconst (M := 15) (pc := 52) (zd_eq zk15 (by decide +kernel : decode cX0_meltsBy 52 = .ok (.iconst 1, 1))) (by decide)) <|
  zcons (a := (53, zi_bin (· - ·) 54)) (zs_isub (M := 15) (pc := 53) (zd_eq zk15 (by decide +kernel : decode cX0_meltsBy 53 = .ok (.isub, 1)))) <|
  zcons (a := (54, zi_is 2 55)) (zs_is_n (M := 15) (pc := 54) (zd_eq zk15 (by decide +kernel : decode cX0_meltsBy 54 = .ok (.istore_n 2, 1))) (by decide +kernel) (by decide +kernel)) <|
  zcons (a := (55, zi_il 2 56)) (zs_il_n (M := 15) (pc := 55) (zd_eq zk15 (by decide +kernel : decode cX0_meltsBy 55 = .ok (.iload_n 2, 1)))) <|
  zcons (a := (56, zi_al 0 57)) (zs_al_n (M := 15) (pc := 56) (zd_eq zk15 (by decide +kernel : decode cX0_meltsBy 56 = .ok (.aload_n 0, 1)))) <|
  zcons (a := (57, zi_gi 0 1 60)) (zs_gi (M := 15) (pc := 57) (n := 0) (ci := 0) (k := 1) (C := RX0) (T := TX0) (N := 3) (zd_eq zk15 (by decide +kernel : decode cX0_meltsBy 57 = .ok (.getfield 15, 3))) rfl (by decide) (by decide) zin_0 (zl_f zo15 zw_95)) <|
  zcons (a := (60, zi_b2 (fun x y => y ≤ x) 67 63)) (zs_icmpge (M := 15) (pc := 60) (zd_eq zk15 (by decide +kernel : decode cX0_meltsBy 60 = .ok (.if_icmp .ge 7, 3))) (by decide)) <|
  zcons (a := (63, zi_il 2 64)) (zs_il_n (M := 15) (pc := 63) (zd_eq zk15 (by decide +kernel : decode cX0_meltsBy 63 = .ok (.iload_n 2, 1)))) <|
  zcons (a := (64, zi_go 71)) (zs_goto (M := 15) (pc := 64) (zd_eq zk15 (by decide +kernel : decode cX0_meltsBy 64 = .ok (.goto 7, 3))) (by decide)) <|
  zcons (a := (67, zi_al 0 68)) (zs_al_n (M := 15) (pc := 67) (zd_eq zk15 (by decide +kernel : decode cX0_meltsBy 67 = .ok (.aload_n 0, 1)))) <|
  zcons (a := (68, zi_gi 0 1 71)) (zs_gi (M := 15) (pc := 68) (n := 0) (ci := 0) (k := 1) (C := RX0) (T := TX0) (N := 3) (zd_eq zk15 (by decide +kernel : decode cX0_meltsBy 68 = .ok (.getfield 15, 3))) rfl (by decide) (by decide) zin_0 (zl_f zo15 zw_95)) <|
  zcons (a := (71, zi_ri)) (zs_ri (M := 15) (pc := 71) (zd_eq zk15 (by decide +kernel : decode cX0_meltsBy 71 = .ok (.ireturn, 1))) rfl) <| znil
theorem zS15 : ∀ pc, zm_Snd 15 pc (zm_lk2 zm_c15 pc) := zlk2 (zcons2 zS15_0 (zcons2 zS15_1 (znil2)))
theorem zS16_0 : ∀ q ∈ zm_c16_0, zm_Snd 16 q.1 q.2 :=
  zcons (a := (0, zi_il 1 1)) (zs_il_n (M := 16) (pc := 0) (zd_eq zk16 (by decide +kernel : decode cX0_tipsBy 0 = .ok (.iload_n 1, 1)))) <|
  zcons (a := (1, zi_k (.int 4) 2)) (zs_iconst (M := 16) (pc := 1) (zd_eq zk16 (by decide +kernel : decode cX0_tipsBy 1 = .ok (.iconst 4, 1))) (by decide)) <|
  zcons (a := (2, zi_bin (· - ·) 3)) (zs_isub (M := 16) (pc := 2) (zd_eq zk16 (by decide +kernel : decode cX0_tipsBy 2 = .ok (.isub, 1)))) <|
  zcons (a := (3, zi_is 2 4)) (zs_is_n (M := 16) (pc := 3) (zd_eq zk16 (by decide +kernel : decode cX0_tipsBy 3 = .ok (.istore_n 2, 1))) (by decide +kernel) (by decide +kernel)) <|
  zcons (a := (4, zi_al 0 5)) (zs_al_n (M := 16) (pc := 4) (zd_eq zk16 (by decide +kernel : decode cX0_tipsBy 4 = .ok (.aload_n 0, 1)))) <|
  zcons (a := (5, zi_gi 0 0 8)) (zs_gi (M := 16) (pc := 5) (n := 0) (ci := 0) (k := 0) (C := RX0) (T := TX0) (N := 3) (zd_eq zk16 (by decide +kernel : decode cX0_tipsBy 5 = .ok (.getfield 9, 3))) rfl (by decide) (by decide) zin_0 (zl_f zo16 zw_92)) <|
  zcons (a := (8, zi_k (.int 1) 9)) (zs_iconst (M := 16) (pc := 8) (zd_eq zk16 (by decide +kernel : decode cX0_tipsBy 8 = .ok (.iconst 1, 1))) (by decide)) <|
  zcons (a := (9, zi_b2 (fun x y => ¬ x = y) 16 12)) (zs_icmpne (M := 16) (pc := 9) (zd_eq zk16 (by decide +kernel : decode cX0_tipsBy 9 = .ok (.if_icmp .ne 7, 3))) (by decide)) <|
  zcons (a := (12, zi_il 2 13)) (zs_il_n (M := 16) (pc := 12) (zd_eq zk16 (by decide +kernel : decode cX0_tipsBy 12 = .ok (.iload_n 2, 1)))) <|
  zcons (a := (13, zi_k (.int 2) 14)) (zs_iconst (M := 16) (pc := 13) (zd_eq zk16 (by decide +kernel : decode cX0_tipsBy 13 = .ok (.iconst 2, 1))) (by decide)) <|
  zcons (a := (14, zi_div 15)) (zs_idiv (M := 16) (pc := 14) (zd_eq zk16 (by decide +kernel : decode cX0_tipsBy 14 = .ok (.idiv, 1)))) <|
  zcons (a := (15, zi_ri)) (zs_ri (M := 16) (pc := 15) (zd_eq zk16 (by decide +kernel : decode cX0_tipsBy 15 = .ok (.ireturn, 1))) rfl) <|
  zcons (a := (16, zi_al 0 17)) (zs_al_n (M := 16) (pc := 16) (zd_eq zk16 (by decide +kernel : decode cX0_tipsBy 16 = .ok (.aload_n 0, 1)))) <|
  zcons (a := (17, zi_gi 0 0 20)) (zs_gi (M := 16) (pc := 17) (n := 0) (ci := 0) (k := 0) (C := RX0) (T := TX0) (N := 3) (zd_eq zk16 (by decide +kernel : decode cX0_tipsBy 17 = .ok (.getfield 9, 3))) rfl (by decide) (by decide) zin_0 (zl_f zo16 zw_92)) <|
  zcons (a := (20, zi_k (.int 3) 21)) (zs_iconst (M := 16) (pc := 20) (zd_eq zk16 (by decide +kernel : decode cX0_tipsBy 20 = .ok (.iconst 3, 1))) (by decide)) <|
  zcons (a := (21, zi_b2 (fun x y => ¬ x = y) 32 24)) (zs_icmpne (M := 16) (pc := 21) (zd_eq zk16 (by decide +kernel : decode cX0_tipsBy 21 = .ok (.if_icmp .ne 11, 3))) (by decide)) <|
  zcons (a := (24, zi_k (.int 2) 25)) (zs_iconst (M := 16) (pc := 24) (zd_eq zk16 (by decide +kernel : decode cX0_tipsBy 24 = .ok (.iconst 2, 1))) (by decide)) <|
  zcons (a := (25, zi_il 2 26)) (zs_il_n (M := 16) (pc := 25) (zd_eq zk16 (by decide +kernel : decode cX0_tipsBy 25 = .ok (.iload_n 2, 1)))) <|
  zcons (a := (26, zi_k (.int 2) 27)) (zs_iconst (M := 16) (pc := 26) (zd_eq zk16 (by decide +kernel : decode cX0_tipsBy 26 = .ok (.iconst 2, 1))) (by decide)) <|
  zcons (a := (27, zi_div 28)) (zs_idiv (M := 16) (pc := 27) (zd_eq zk16 (by decide +kernel : decode cX0_tipsBy 27 = .ok (.idiv, 1)))) <|
  zcons (a := (28, zi_bin (· * ·) 29)) (zs_imul (M := 16) (pc := 28) (zd_eq zk16 (by decide +kernel : decode cX0_tipsBy 28 = .ok (.imul, 1)))) <|
  zcons (a := (29, zi_go 33)) (zs_goto (M := 16) (pc := 29) (zd_eq zk16 (by decide +kernel : decode cX0_tipsBy 29 = .ok (.goto 4, 3))) (by decide)) <|
  zcons (a := (32, zi_il 2 33)) (zs_il_n (M := 16) (pc := 32) (zd_eq zk16 (by decide +kernel : decode cX0_tipsBy 32 = .ok (.iload_n 2, 1)))) <|
  zcons (a := (33, zi_ri)) (zs_ri (M := 16) (pc := 33) (zd_eq zk16 (by decide +kernel : decode cX0_tipsBy 33 = .ok (.ireturn, 1))) rfl) <| znil
theorem zS16 : ∀ pc, zm_Snd 16 pc (zm_lk2 zm_c16 pc) := zlk2 (zcons2 zS16_0 (znil2))
theorem zS17_0 : ∀ q ∈ zm_c17_0, zm_Snd 17 q.1 q.2 :=
  zcons (a := (0, zi_al 0 1)) (zs_al_n (M := 17) (pc := 0) (zd_eq zk17 (by decide +kernel : decode cX0_pass 0 = .ok (.aload_n 0, 1)))) <|
  zcons (a := (1, zi_cv 13 0 0 4 1)) (zs_cv (M := 17) (pc := 1) (M' := 13) (k := 0) (kd := 1) (ci := 0) (q := (RX0, TX0, 3)) (zd_eq zk17 (by decide +kernel : decode cX0_pass 1 = .ok (.invokevirtual 21, 3))) zWd13 (zl_m zo17 zy13 zw_544) (zl_i zy13 zw_439) (zl_e zy13 zw_440) (by decide) rfl (by rw [zo13])) <|
  zcons (a := (4, zi_b1 (fun x => ¬ x = 0) 8 7)) (zs_ifne (M := 17) (pc := 4) (zd_eq zk17 (by decide +kernel : decode cX0_pass 4 = .ok (.ifCond .ne 4, 3))) (by decide)) <|
  zcons (a := (7, zi_rv)) (zs_rv (M := 17) (pc := 7) (zd_eq zk17 (by decide +kernel : decode cX0_pass 7 = .ok (.return_, 1))) rfl) <|
  zcons (a := (8, zi_al 0 9)) (zs_al_n (M := 17) (pc := 8) (zd_eq zk17 (by decide +kernel : decode cX0_pass 8 = .ok (.aload_n 0, 1)))) <|
  zcons (a := (9, zi_dup 10)) (zs_dup (M := 17) (pc := 9) (zd_eq zk17 (by decide +kernel : decode cX0_pass 9 = .ok (.dup, 1)))) <|
  zcons (a := (10, zi_gi 0 1 13)) (zs_gi (M := 17) (pc := 10) (n := 0) (ci := 0) (k := 1) (C := RX0) (T := TX0) (N := 3) (zd_eq zk17 (by decide +kernel : decode cX0_pass 10 = .ok (.getfield 15, 3))) rfl (by decide) (by decide) zin_0 (zl_f zo17 zw_95)) <|
  zcons (a := (13, zi_al 0 14)) (zs_al_n (M := 17) (pc := 13) (zd_eq zk17 (by decide +kernel : decode cX0_pass 13 = .ok (.aload_n 0, 1)))) <|
  zcons (a := (14, zi_il 1 15)) (zs_il_n (M := 17) (pc := 14) (zd_eq zk17 (by decide +kernel : decode cX0_pass 14 = .ok (.iload_n 1, 1)))) <|
  zcons (a := (15, zi_cv 15 1 0 18 1)) (zs_cv (M := 17) (pc := 15) (M' := 15) (k := 1) (kd := 1) (ci := 0) (q := (RX0, TX0, 3)) (zd_eq zk17 (by decide +kernel : decode cX0_pass 15 = .ok (.invokevirtual 25, 3))) zWd15 (zl_m zo17 zy15 zw_545) (zl_i zy15 zw_468) (zl_e zy15 zw_469) (by decide) rfl (by rw [zo15])) <|
  zcons (a := (18, zi_bin (· - ·) 19)) (zs_isub (M := 17) (pc := 18) (zd_eq zk17 (by decide +kernel : decode cX0_pass 18 = .ok (.isub, 1)))) <|
  zcons (a := (19, zi_pf 0 1 22)) (zs_pf (M := 17) (pc := 19) (ci := 0) (k := 1) (C := RX0) (T := TX0) (N := 3) (ty0 := tyX0) (zd_eq zk17 (by decide +kernel : decode cX0_pass 19 = .ok (.putfield 15, 3))) rfl (by decide) (by decide) zin_0 (zl_f zo17 zw_95) tyX0_ok nmX0 rfl (tyX0_ok 1 (by decide))) <|
  zcons (a := (22, zi_al 0 23)) (zs_al_n (M := 17) (pc := 22) (zd_eq zk17 (by decide +kernel : decode cX0_pass 22 = .ok (.aload_n 0, 1)))) <|
  zcons (a := (23, zi_k (.int 0) 24)) (zs_iconst (M := 17) (pc := 23) (zd_eq zk17 (by decide +kernel : decode cX0_pass 23 = .ok (.iconst 0, 1))) (by decide)) <|
  zcons (a := (24, zi_k (.int 40) 26)) (zs_bipush (M := 17) (pc := 24) (zd_eq zk17 (by decide +kernel : decode cX0_pass 24 = .ok (.bipush 40, 2))) (by decide)) <|
  zcons (a := (26, zi_al 0 27)) (zs_al_n (M := 17) (pc := 26) (zd_eq zk17 (by decide +kernel : decode cX0_pass 26 = .ok (.aload_n 0, 1)))) <|
  zcons (a := (27, zi_gi 0 2 30)) (zs_gi (M := 17) (pc := 27) (n := 0) (ci := 0) (k := 2) (C := RX0) (T := TX0) (N := 3) (zd_eq zk17 (by decide +kernel : decode cX0_pass 27 = .ok (.getfield 18, 3))) rfl (by decide) (by decide) zin_0 (zl_f zo17 zw_98)) <|
  zcons (a := (30, zi_al 0 31)) (zs_al_n (M := 17) (pc := 30) (zd_eq zk17 (by decide +kernel : decode cX0_pass 30 = .ok (.aload_n 0, 1)))) <|
  zcons (a := (31, zi_il 2 32)) (zs_il_n (M := 17) (pc := 31) (zd_eq zk17 (by decide +kernel : decode cX0_pass 31 = .ok (.iload_n 2, 1)))) <|
  zcons (a := (32, zi_cv 16 1 0 35 1)) (zs_cv (M := 17) (pc := 32) (M' := 16) (k := 1) (kd := 1) (ci := 0) (q := (RX0, TX0, 3)) (zd_eq zk17 (by decide +kernel : decode cX0_pass 32 = .ok (.invokevirtual 29, 3))) zWd16 (zl_m zo17 zy16 zw_546) (zl_i zy16 zw_472) (zl_e zy16 zw_473) (by decide) rfl (by rw [zo16])) <|
  zcons (a := (35, zi_bin (· + ·) 36)) (zs_iadd (M := 17) (pc := 35) (zd_eq zk17 (by decide +kernel : decode cX0_pass 35 = .ok (.iadd, 1)))) <|
  zcons (a := (36, zi_m2 (fun x y => if y < x then y else x) 39)) (zs_min (M := 17) (pc := 36) (zd_eq zk17 (by decide +kernel : decode cX0_pass 36 = .ok (.invokestatic 32, 3))) (zl_mo zo17 zw_547) zw_548 zw_63 zw_549) <|
  zcons (a := (39, zi_m2 (fun x y => if x < y then y else x) 42)) (zs_max (M := 17) (pc := 39) (zd_eq zk17 (by decide +kernel : decode cX0_pass 39 = .ok (.invokestatic 38, 3))) (zl_mo zo17 zw_550) zw_551 zw_63 zw_552) <|
  zcons (a := (42, zi_pf 0 2 45)) (zs_pf (M := 17) (pc := 42) (ci := 0) (k := 2) (C := RX0) (T := TX0) (N := 3) (ty0 := tyX0) (zd_eq zk17 (by decide +kernel : decode cX0_pass 42 = .ok (.putfield 18, 3))) rfl (by decide) (by decide) zin_0 (zl_f zo17 zw_98) tyX0_ok nmX0 rfl (tyX0_ok 2 (by decide))) <| znil
theorem zS17_1 : ∀ q ∈ zm_c17_1, zm_Snd 17 q.1 q.2 :=
  zcons (a := (45, zi_al 0 46)) (zs_al_n (M := 17) (pc := 45) (zd_eq zk17 (by decide +kernel : decode cX0_pass 45 = .ok (.aload_n 0, 1)))) <|
  zcons (a := (46, zi_gi 0 2 49)) (zs_gi (M := 17) (pc := 46) (n := 0) (ci := 0) (k := 2) (C := RX0) (T := TX0) (N := 3) (zd_eq zk17 (by decide +kernel : decode cX0_pass 46 = .ok (.getfield 18, 3))) rfl (by decide) (by decide) zin_0 (zl_f zo17 zw_98)) <|
  zcons (a := (49, zi_k (.int 20) 51)) (zs_bipush (M := 17) (pc := 49) (zd_eq zk17 (by decide +kernel : decode cX0_pass 49 = .ok (.bipush 20, 2))) (by decide)) <|
  zcons (a := (51, zi_bin (· - ·) 52)) (zs_isub (M := 17) (pc := 51) (zd_eq zk17 (by decide +kernel : decode cX0_pass 51 = .ok (.isub, 1)))) <|
  zcons (a := (52, zi_m1 (fun x => if 0 ≤ x then x else 0 - x) 55)) (zs_abs (M := 17) (pc := 52) (zd_eq zk17 (by decide +kernel : decode cX0_pass 52 = .ok (.invokestatic 41, 3))) (zl_mo zo17 zw_553) zw_554 zw_63 zw_555) <|
  zcons (a := (55, zi_al 0 56)) (zs_al_n (M := 17) (pc := 55) (zd_eq zk17 (by decide +kernel : decode cX0_pass 55 = .ok (.aload_n 0, 1)))) <|
  zcons (a := (56, zi_gi 0 1 59)) (zs_gi (M := 17) (pc := 56) (n := 0) (ci := 0) (k := 1) (C := RX0) (T := TX0) (N := 3) (zd_eq zk17 (by decide +kernel : decode cX0_pass 56 = .ok (.getfield 15, 3))) rfl (by decide) (by decide) zin_0 (zl_f zo17 zw_95)) <|
  zcons (a := (59, zi_b2 (fun x y => x ≤ y) 67 62)) (zs_icmple (M := 17) (pc := 59) (zd_eq zk17 (by decide +kernel : decode cX0_pass 59 = .ok (.if_icmp .le 8, 3))) (by decide)) <|
  zcons (a := (62, zi_al 0 63)) (zs_al_n (M := 17) (pc := 62) (zd_eq zk17 (by decide +kernel : decode cX0_pass 62 = .ok (.aload_n 0, 1)))) <|
  zcons (a := (63, zi_k (.int 0) 64)) (zs_iconst (M := 17) (pc := 63) (zd_eq zk17 (by decide +kernel : decode cX0_pass 63 = .ok (.iconst 0, 1))) (by decide)) <|
  zcons (a := (64, zi_pf 0 1 67)) (zs_pf (M := 17) (pc := 64) (ci := 0) (k := 1) (C := RX0) (T := TX0) (N := 3) (ty0 := tyX0) (zd_eq zk17 (by decide +kernel : decode cX0_pass 64 = .ok (.putfield 15, 3))) rfl (by decide) (by decide) zin_0 (zl_f zo17 zw_95) tyX0_ok nmX0 rfl (tyX0_ok 1 (by decide))) <|
  zcons (a := (67, zi_rv)) (zs_rv (M := 17) (pc := 67) (zd_eq zk17 (by decide +kernel : decode cX0_pass 67 = .ok (.return_, 1))) rfl) <| znil
theorem zS17 : ∀ pc, zm_Snd 17 pc (zm_lk2 zm_c17 pc) := zlk2 (zcons2 zS17_0 (zcons2 zS17_1 (znil2)))
theorem zS18_0 : ∀ q ∈ zm_c18_0, zm_Snd 18 q.1 q.2 :=
  zcons (a := (0, zi_al 0 1)) (zs_al_n (M := 18) (pc := 0) (zd_eq zk18 (by decide +kernel : decode cX2_init 0 = .ok (.aload_n 0, 1)))) <|
  zcons (a := (1, zi_oi 4)) (zs_oi (M := 18) (pc := 1) (zd_eq zk18 (by decide +kernel : decode cX2_init 1 = .ok (.invokespecial 3, 3))) (zl_mo zo18 zw_84) zw_71 zw_72) <|
  zcons (a := (4, zi_al 0 5)) (zs_al_n (M := 18) (pc := 4) (zd_eq zk18 (by decide +kernel : decode cX2_init 4 = .ok (.aload_n 0, 1)))) <|
  zcons (a := (5, zi_k (.int 5) 6)) (zs_iconst (M := 18) (pc := 5) (zd_eq zk18 (by decide +kernel : decode cX2_init 5 = .ok (.iconst 5, 1))) (by decide)) <|
  zcons (a := (6, zi_nq 3 9)) (zs_nq (M := 18) (pc := 6) (t := 3) (C := "SnowReign$Figure") (zd_eq zk18 (by decide +kernel : decode cX2_init 6 = .ok (.anewarray 9, 3))) rfl (zl_c zo18 zw_85) zao_3) <|
  zcons (a := (9, zi_pr 2 0 12)) (zs_pr (M := 18) (pc := 9) (ci := 2) (k := 0) (C := RX2) (T := TX2) (N := 2) (ty0 := tyX2) (zd_eq zk18 (by decide +kernel : decode cX2_init 9 = .ok (.putfield 11, 3))) rfl (by decide) (by decide) zin_2 (zl_f zo18 zw_107) tyX2_ok nmX2 rfl (by rw [zy18]; rfl) (by rw [zo18]; rfl) (tyX2_ok 0 (by decide)) (fun _ => rfl) (fun _ => rfl)) <|
  zcons (a := (12, zi_k (.int 0) 13)) (zs_iconst (M := 18) (pc := 12) (zd_eq zk18 (by decide +kernel : decode cX2_init 12 = .ok (.iconst 0, 1))) (by decide)) <|
  zcons (a := (13, zi_is 1 14)) (zs_is_n (M := 18) (pc := 13) (zd_eq zk18 (by decide +kernel : decode cX2_init 13 = .ok (.istore_n 1, 1))) (by decide +kernel) (by decide +kernel)) <|
  zcons (a := (14, zi_il 1 15)) (zs_il_n (M := 18) (pc := 14) (zd_eq zk18 (by decide +kernel : decode cX2_init 14 = .ok (.iload_n 1, 1)))) <|
  zcons (a := (15, zi_k (.int 5) 16)) (zs_iconst (M := 18) (pc := 15) (zd_eq zk18 (by decide +kernel : decode cX2_init 15 = .ok (.iconst 5, 1))) (by decide)) <|
  zcons (a := (16, zi_b2 (fun x y => y ≤ x) 38 19)) (zs_icmpge (M := 18) (pc := 16) (zd_eq zk18 (by decide +kernel : decode cX2_init 16 = .ok (.if_icmp .ge 22, 3))) (by decide)) <|
  zcons (a := (19, zi_al 0 20)) (zs_al_n (M := 18) (pc := 19) (zd_eq zk18 (by decide +kernel : decode cX2_init 19 = .ok (.aload_n 0, 1)))) <|
  zcons (a := (20, zi_gr 2 0 23)) (zs_gr (M := 18) (pc := 20) (n := 0) (ci := 2) (k := 0) (C := RX2) (T := TX2) (N := 2) (zd_eq zk18 (by decide +kernel : decode cX2_init 20 = .ok (.getfield 11, 3))) rfl (by decide) (by decide) zin_2 (zl_f zo18 zw_107)) <|
  zcons (a := (23, zi_il 1 24)) (zs_il_n (M := 18) (pc := 23) (zd_eq zk18 (by decide +kernel : decode cX2_init 23 = .ok (.iload_n 1, 1)))) <|
  zcons (a := (24, zi_new 0 27)) (zs_new (M := 18) (pc := 24) (ci := 0) (C := RX0) (T := TX0) (N := 3) (ty := tyX0) (zd_eq zk18 (by decide +kernel : decode cX2_init 24 = .ok (.new 9, 3))) rfl rfl zin_0 tyX0_ok (zl_c zo18 zw_85) zw_87 zw_52 zdf_0 zvr_0) <|
  zcons (a := (27, zi_dup 28)) (zs_dup (M := 18) (pc := 27) (zd_eq zk18 (by decide +kernel : decode cX2_init 27 = .ok (.dup, 1)))) <|
  zcons (a := (28, zi_ci 9 0 31 0)) (zs_ci (M := 18) (pc := 28) (M' := 9) (k := 0) (kd := 0) (zd_eq zk18 (by decide +kernel : decode cX2_init 28 = .ok (.invokespecial 17, 3))) zWd9 (Or.inr (Or.inl (by rw [zo18, zy9]))) (zl_i zy9 zw_89) rfl (by rw [zy9]; rfl)) <|
  zcons (a := (31, zi_qst 3 0 32)) (zs_qst (M := 18) (pc := 31) (t := 3) (ci := 0) (by decide) rfl rfl (zd_eq zk18 (by decide +kernel : decode cX2_init 31 = .ok (.aastore, 1)))) <|
  zcons (a := (32, zi_inc 1 1 35)) (zs_inc (M := 18) (pc := 32) (zd_eq zk18 (by decide +kernel : decode cX2_init 32 = .ok (.iinc 1 1, 3))) (by decide) (by decide +kernel) (by decide +kernel)) <|
  zcons (a := (35, zi_go 14)) (zs_goto (M := 18) (pc := 35) (zd_eq zk18 (by decide +kernel : decode cX2_init 35 = .ok (.goto (-21), 3))) (by decide)) <|
  zcons (a := (38, zi_rv)) (zs_rv (M := 18) (pc := 38) (zd_eq zk18 (by decide +kernel : decode cX2_init 38 = .ok (.return_, 1))) rfl) <| znil
theorem zS18 : ∀ pc, zm_Snd 18 pc (zm_lk2 zm_c18 pc) := zlk2 (zcons2 zS18_0 (znil2))
theorem zS19_0 : ∀ q ∈ zm_c19_0, zm_Snd 19 q.1 q.2 :=
  zcons (a := (0, zi_al 0 1)) (zs_al_n (M := 19) (pc := 0) (zd_eq zk19 (by decide +kernel : decode cX2_copyOf 0 = .ok (.aload_n 0, 1)))) <|
  zcons (a := (1, zi_al 1 2)) (zs_al_n (M := 19) (pc := 1) (zd_eq zk19 (by decide +kernel : decode cX2_copyOf 1 = .ok (.aload_n 1, 1)))) <|
  zcons (a := (2, zi_gi 2 1 5)) (zs_gi (M := 19) (pc := 2) (n := 0) (ci := 2) (k := 1) (C := RX2) (T := TX2) (N := 2) (zd_eq zk19 (by decide +kernel : decode cX2_copyOf 2 = .ok (.getfield 18, 3))) rfl (by decide) (by decide) zin_2 (zl_f zo19 zw_109)) <|
  zcons (a := (5, zi_pf 2 1 8)) (zs_pf (M := 19) (pc := 5) (ci := 2) (k := 1) (C := RX2) (T := TX2) (N := 2) (ty0 := tyX2) (zd_eq zk19 (by decide +kernel : decode cX2_copyOf 5 = .ok (.putfield 18, 3))) rfl (by decide) (by decide) zin_2 (zl_f zo19 zw_109) tyX2_ok nmX2 rfl (tyX2_ok 1 (by decide))) <|
  zcons (a := (8, zi_k (.int 0) 9)) (zs_iconst (M := 19) (pc := 8) (zd_eq zk19 (by decide +kernel : decode cX2_copyOf 8 = .ok (.iconst 0, 1))) (by decide)) <|
  zcons (a := (9, zi_is 2 10)) (zs_is_n (M := 19) (pc := 9) (zd_eq zk19 (by decide +kernel : decode cX2_copyOf 9 = .ok (.istore_n 2, 1))) (by decide +kernel) (by decide +kernel)) <|
  zcons (a := (10, zi_il 2 11)) (zs_il_n (M := 19) (pc := 10) (zd_eq zk19 (by decide +kernel : decode cX2_copyOf 10 = .ok (.iload_n 2, 1)))) <|
  zcons (a := (11, zi_al 0 12)) (zs_al_n (M := 19) (pc := 11) (zd_eq zk19 (by decide +kernel : decode cX2_copyOf 11 = .ok (.aload_n 0, 1)))) <|
  zcons (a := (12, zi_gi 2 1 15)) (zs_gi (M := 19) (pc := 12) (n := 0) (ci := 2) (k := 1) (C := RX2) (T := TX2) (N := 2) (zd_eq zk19 (by decide +kernel : decode cX2_copyOf 12 = .ok (.getfield 18, 3))) rfl (by decide) (by decide) zin_2 (zl_f zo19 zw_109)) <|
  zcons (a := (15, zi_b2 (fun x y => y ≤ x) 39 18)) (zs_icmpge (M := 19) (pc := 15) (zd_eq zk19 (by decide +kernel : decode cX2_copyOf 15 = .ok (.if_icmp .ge 24, 3))) (by decide)) <|
  zcons (a := (18, zi_al 0 19)) (zs_al_n (M := 19) (pc := 18) (zd_eq zk19 (by decide +kernel : decode cX2_copyOf 18 = .ok (.aload_n 0, 1)))) <|
  zcons (a := (19, zi_gr 2 0 22)) (zs_gr (M := 19) (pc := 19) (n := 0) (ci := 2) (k := 0) (C := RX2) (T := TX2) (N := 2) (zd_eq zk19 (by decide +kernel : decode cX2_copyOf 19 = .ok (.getfield 11, 3))) rfl (by decide) (by decide) zin_2 (zl_f zo19 zw_107)) <|
  zcons (a := (22, zi_il 2 23)) (zs_il_n (M := 19) (pc := 22) (zd_eq zk19 (by decide +kernel : decode cX2_copyOf 22 = .ok (.iload_n 2, 1)))) <|
  zcons (a := (23, zi_qld 3 24)) (zs_qld (M := 19) (pc := 23) (t := 3) rfl (zd_eq zk19 (by decide +kernel : decode cX2_copyOf 23 = .ok (.aaload, 1)))) <|
  zcons (a := (24, zi_al 1 25)) (zs_al_n (M := 19) (pc := 24) (zd_eq zk19 (by decide +kernel : decode cX2_copyOf 24 = .ok (.aload_n 1, 1)))) <|
  zcons (a := (25, zi_gr 2 0 28)) (zs_gr (M := 19) (pc := 25) (n := 0) (ci := 2) (k := 0) (C := RX2) (T := TX2) (N := 2) (zd_eq zk19 (by decide +kernel : decode cX2_copyOf 25 = .ok (.getfield 11, 3))) rfl (by decide) (by decide) zin_2 (zl_f zo19 zw_107)) <|
  zcons (a := (28, zi_il 2 29)) (zs_il_n (M := 19) (pc := 28) (zd_eq zk19 (by decide +kernel : decode cX2_copyOf 28 = .ok (.iload_n 2, 1)))) <|
  zcons (a := (29, zi_qld 3 30)) (zs_qld (M := 19) (pc := 29) (t := 3) rfl (zd_eq zk19 (by decide +kernel : decode cX2_copyOf 29 = .ok (.aaload, 1)))) <|
  zcons (a := (30, zi_cv 10 1 0 33 0)) (zs_cv (M := 19) (pc := 30) (M' := 10) (k := 1) (kd := 0) (ci := 0) (q := (RX0, TX0, 3)) (zd_eq zk19 (by decide +kernel : decode cX2_copyOf 30 = .ok (.invokevirtual 22, 3))) zWd10 (zl_m zo19 zy10 zw_419) (zl_i zy10 zw_420) (zl_e zy10 zw_421) (by decide) rfl (by rw [zo10])) <|
  zcons (a := (33, zi_inc 2 1 36)) (zs_inc (M := 19) (pc := 33) (zd_eq zk19 (by decide +kernel : decode cX2_copyOf 33 = .ok (.iinc 2 1, 3))) (by decide) (by decide +kernel) (by decide +kernel)) <|
  zcons (a := (36, zi_go 10)) (zs_goto (M := 19) (pc := 36) (zd_eq zk19 (by decide +kernel : decode cX2_copyOf 36 = .ok (.goto (-26), 3))) (by decide)) <|
  zcons (a := (39, zi_rv)) (zs_rv (M := 19) (pc := 39) (zd_eq zk19 (by decide +kernel : decode cX2_copyOf 39 = .ok (.return_, 1))) rfl) <| znil
theorem zS19 : ∀ pc, zm_Snd 19 pc (zm_lk2 zm_c19 pc) := zlk2 (zcons2 zS19_0 (znil2))
theorem zS20_0 : ∀ q ∈ zm_c20_0, zm_Snd 20 q.1 q.2 :=
  zcons (a := (0, zi_al 0 1)) (zs_al_n (M := 20) (pc := 0) (zd_eq zk20 (by decide +kernel : decode cX2_add 0 = .ok (.aload_n 0, 1)))) <|
  zcons (a := (1, zi_gi 2 1 4)) (zs_gi (M := 20) (pc := 1) (n := 0) (ci := 2) (k := 1) (C := RX2) (T := TX2) (N := 2) (zd_eq zk20 (by decide +kernel : decode cX2_add 1 = .ok (.getfield 18, 3))) rfl (by decide) (by decide) zin_2 (zl_f zo20 zw_109)) <|
  zcons (a := (4, zi_k (.int 5) 5)) (zs_iconst (M := 20) (pc := 4) (zd_eq zk20 (by decide +kernel : decode cX2_add 4 = .ok (.iconst 5, 1))) (by decide)) <|
  zcons (a := (5, zi_b2 (fun x y => x < y) 9 8)) (zs_icmplt (M := 20) (pc := 5) (zd_eq zk20 (by decide +kernel : decode cX2_add 5 = .ok (.if_icmp .lt 4, 3))) (by decide)) <|
  zcons (a := (8, zi_rv)) (zs_rv (M := 20) (pc := 8) (zd_eq zk20 (by decide +kernel : decode cX2_add 8 = .ok (.return_, 1))) rfl) <|
  zcons (a := (9, zi_al 0 10)) (zs_al_n (M := 20) (pc := 9) (zd_eq zk20 (by decide +kernel : decode cX2_add 9 = .ok (.aload_n 0, 1)))) <|
  zcons (a := (10, zi_gr 2 0 13)) (zs_gr (M := 20) (pc := 10) (n := 0) (ci := 2) (k := 0) (C := RX2) (T := TX2) (N := 2) (zd_eq zk20 (by decide +kernel : decode cX2_add 10 = .ok (.getfield 11, 3))) rfl (by decide) (by decide) zin_2 (zl_f zo20 zw_107)) <|
  zcons (a := (13, zi_al 0 14)) (zs_al_n (M := 20) (pc := 13) (zd_eq zk20 (by decide +kernel : decode cX2_add 13 = .ok (.aload_n 0, 1)))) <|
  zcons (a := (14, zi_gi 2 1 17)) (zs_gi (M := 20) (pc := 14) (n := 0) (ci := 2) (k := 1) (C := RX2) (T := TX2) (N := 2) (zd_eq zk20 (by decide +kernel : decode cX2_add 14 = .ok (.getfield 18, 3))) rfl (by decide) (by decide) zin_2 (zl_f zo20 zw_109)) <|
  zcons (a := (17, zi_qld 3 18)) (zs_qld (M := 20) (pc := 17) (t := 3) rfl (zd_eq zk20 (by decide +kernel : decode cX2_add 17 = .ok (.aaload, 1)))) <|
  zcons (a := (18, zi_as 4 20)) (zs_as_w (M := 20) (pc := 18) (zd_eq zk20 (by decide +kernel : decode cX2_add 18 = .ok (.astore 4, 2))) (by decide +kernel) (by decide +kernel)) <|
  zcons (a := (20, zi_al 4 22)) (zs_al_w (M := 20) (pc := 20) (zd_eq zk20 (by decide +kernel : decode cX2_add 20 = .ok (.aload 4, 2)))) <|
  zcons (a := (22, zi_il 1 23)) (zs_il_n (M := 20) (pc := 22) (zd_eq zk20 (by decide +kernel : decode cX2_add 22 = .ok (.iload_n 1, 1)))) <|
  zcons (a := (23, zi_pf 0 0 26)) (zs_pf (M := 20) (pc := 23) (ci := 0) (k := 0) (C := RX0) (T := TX0) (N := 3) (ty0 := tyX0) (zd_eq zk20 (by decide +kernel : decode cX2_add 23 = .ok (.putfield 26, 3))) rfl (by decide) (by decide) zin_0 (zl_f zo20 zw_93) tyX0_ok nmX0 rfl (tyX0_ok 0 (by decide))) <|
  zcons (a := (26, zi_al 4 28)) (zs_al_w (M := 20) (pc := 26) (zd_eq zk20 (by decide +kernel : decode cX2_add 26 = .ok (.aload 4, 2)))) <|
  zcons (a := (28, zi_il 2 29)) (zs_il_n (M := 20) (pc := 28) (zd_eq zk20 (by decide +kernel : decode cX2_add 28 = .ok (.iload_n 2, 1)))) <|
  zcons (a := (29, zi_pf 0 1 32)) (zs_pf (M := 20) (pc := 29) (ci := 0) (k := 1) (C := RX0) (T := TX0) (N := 3) (ty0 := tyX0) (zd_eq zk20 (by decide +kernel : decode cX2_add 29 = .ok (.putfield 29, 3))) rfl (by decide) (by decide) zin_0 (zl_f zo20 zw_96) tyX0_ok nmX0 rfl (tyX0_ok 1 (by decide))) <|
  zcons (a := (32, zi_al 4 34)) (zs_al_w (M := 20) (pc := 32) (zd_eq zk20 (by decide +kernel : decode cX2_add 32 = .ok (.aload 4, 2)))) <|
  zcons (a := (34, zi_il 3 35)) (zs_il_n (M := 20) (pc := 34) (zd_eq zk20 (by decide +kernel : decode cX2_add 34 = .ok (.iload_n 3, 1)))) <|
  zcons (a := (35, zi_pf 0 2 38)) (zs_pf (M := 20) (pc := 35) (ci := 0) (k := 2) (C := RX0) (T := TX0) (N := 3) (ty0 := tyX0) (zd_eq zk20 (by decide +kernel : decode cX2_add 35 = .ok (.putfield 32, 3))) rfl (by decide) (by decide) zin_0 (zl_f zo20 zw_99) tyX0_ok nmX0 rfl (tyX0_ok 2 (by decide))) <|
  zcons (a := (38, zi_al 0 39)) (zs_al_n (M := 20) (pc := 38) (zd_eq zk20 (by decide +kernel : decode cX2_add 38 = .ok (.aload_n 0, 1)))) <|
  zcons (a := (39, zi_dup 40)) (zs_dup (M := 20) (pc := 39) (zd_eq zk20 (by decide +kernel : decode cX2_add 39 = .ok (.dup, 1)))) <|
  zcons (a := (40, zi_gi 2 1 43)) (zs_gi (M := 20) (pc := 40) (n := 0) (ci := 2) (k := 1) (C := RX2) (T := TX2) (N := 2) (zd_eq zk20 (by decide +kernel : decode cX2_add 40 = .ok (.getfield 18, 3))) rfl (by decide) (by decide) zin_2 (zl_f zo20 zw_109)) <|
  zcons (a := (43, zi_k (.int 1) 44)) (zs_iconst (M := 20) (pc := 43) (zd_eq zk20 (by decide +kernel : decode cX2_add 43 = .ok (.iconst 1, 1))) (by decide)) <| znil
theorem zS20_1 : ∀ q ∈ zm_c20_1, zm_Snd 20 q.1 q.2 :=
  zcons (a := (44, zi_bin (· + ·) 45)) (zs_iadd (M := 20) (pc := 44) (zd_eq zk20 (by decide +kernel : decode cX2_add 44 = .ok (.iadd, 1)))) <|
  zcons (a := (45, zi_pf 2 1 48)) (zs_pf (M := 20) (pc := 45) (ci := 2) (k := 1) (C := RX2) (T := TX2) (N := 2) (ty0 := tyX2) (zd_eq zk20 (by decide +kernel : decode cX2_add 45 = .ok (.putfield 18, 3))) rfl (by decide) (by decide) zin_2 (zl_f zo20 zw_109) tyX2_ok nmX2 rfl (tyX2_ok 1 (by decide))) <|
  zcons (a := (48, zi_rv)) (zs_rv (M := 20) (pc := 48) (zd_eq zk20 (by decide +kernel : decode cX2_add 48 = .ok (.return_, 1))) rfl) <| znil
theorem zS20 : ∀ pc, zm_Snd 20 pc (zm_lk2 zm_c20 pc) := zlk2 (zcons2 zS20_0 (zcons2 zS20_1 (znil2)))
theorem zS21_0 : ∀ q ∈ zm_c21_0, zm_Snd 21 q.1 q.2 :=
  zcons (a := (0, zi_al 0 1)) (zs_al_n (M := 21) (pc := 0) (zd_eq zk21 (by decide +kernel : decode cX2_exchange 0 = .ok (.aload_n 0, 1)))) <|
  zcons (a := (1, zi_gr 2 0 4)) (zs_gr (M := 21) (pc := 1) (n := 0) (ci := 2) (k := 0) (C := RX2) (T := TX2) (N := 2) (zd_eq zk21 (by decide +kernel : decode cX2_exchange 1 = .ok (.getfield 11, 3))) rfl (by decide) (by decide) zin_2 (zl_f zo21 zw_107)) <|
  zcons (a := (4, zi_il 1 5)) (zs_il_n (M := 21) (pc := 4) (zd_eq zk21 (by decide +kernel : decode cX2_exchange 4 = .ok (.iload_n 1, 1)))) <|
  zcons (a := (5, zi_qld 3 6)) (zs_qld (M := 21) (pc := 5) (t := 3) rfl (zd_eq zk21 (by decide +kernel : decode cX2_exchange 5 = .ok (.aaload, 1)))) <|
  zcons (a := (6, zi_as 3 7)) (zs_as_n (M := 21) (pc := 6) (zd_eq zk21 (by decide +kernel : decode cX2_exchange 6 = .ok (.astore_n 3, 1))) (by decide +kernel) (by decide +kernel)) <|
  zcons (a := (7, zi_al 0 8)) (zs_al_n (M := 21) (pc := 7) (zd_eq zk21 (by decide +kernel : decode cX2_exchange 7 = .ok (.aload_n 0, 1)))) <|
  zcons (a := (8, zi_gr 2 0 11)) (zs_gr (M := 21) (pc := 8) (n := 0) (ci := 2) (k := 0) (C := RX2) (T := TX2) (N := 2) (zd_eq zk21 (by decide +kernel : decode cX2_exchange 8 = .ok (.getfield 11, 3))) rfl (by decide) (by decide) zin_2 (zl_f zo21 zw_107)) <|
  zcons (a := (11, zi_il 1 12)) (zs_il_n (M := 21) (pc := 11) (zd_eq zk21 (by decide +kernel : decode cX2_exchange 11 = .ok (.iload_n 1, 1)))) <|
  zcons (a := (12, zi_al 0 13)) (zs_al_n (M := 21) (pc := 12) (zd_eq zk21 (by decide +kernel : decode cX2_exchange 12 = .ok (.aload_n 0, 1)))) <|
  zcons (a := (13, zi_gr 2 0 16)) (zs_gr (M := 21) (pc := 13) (n := 0) (ci := 2) (k := 0) (C := RX2) (T := TX2) (N := 2) (zd_eq zk21 (by decide +kernel : decode cX2_exchange 13 = .ok (.getfield 11, 3))) rfl (by decide) (by decide) zin_2 (zl_f zo21 zw_107)) <|
  zcons (a := (16, zi_il 2 17)) (zs_il_n (M := 21) (pc := 16) (zd_eq zk21 (by decide +kernel : decode cX2_exchange 16 = .ok (.iload_n 2, 1)))) <|
  zcons (a := (17, zi_qld 3 18)) (zs_qld (M := 21) (pc := 17) (t := 3) rfl (zd_eq zk21 (by decide +kernel : decode cX2_exchange 17 = .ok (.aaload, 1)))) <|
  zcons (a := (18, zi_qst 3 0 19)) (zs_qst (M := 21) (pc := 18) (t := 3) (ci := 0) (by decide) rfl rfl (zd_eq zk21 (by decide +kernel : decode cX2_exchange 18 = .ok (.aastore, 1)))) <|
  zcons (a := (19, zi_al 0 20)) (zs_al_n (M := 21) (pc := 19) (zd_eq zk21 (by decide +kernel : decode cX2_exchange 19 = .ok (.aload_n 0, 1)))) <|
  zcons (a := (20, zi_gr 2 0 23)) (zs_gr (M := 21) (pc := 20) (n := 0) (ci := 2) (k := 0) (C := RX2) (T := TX2) (N := 2) (zd_eq zk21 (by decide +kernel : decode cX2_exchange 20 = .ok (.getfield 11, 3))) rfl (by decide) (by decide) zin_2 (zl_f zo21 zw_107)) <|
  zcons (a := (23, zi_il 2 24)) (zs_il_n (M := 21) (pc := 23) (zd_eq zk21 (by decide +kernel : decode cX2_exchange 23 = .ok (.iload_n 2, 1)))) <|
  zcons (a := (24, zi_al 3 25)) (zs_al_n (M := 21) (pc := 24) (zd_eq zk21 (by decide +kernel : decode cX2_exchange 24 = .ok (.aload_n 3, 1)))) <|
  zcons (a := (25, zi_qst 3 0 26)) (zs_qst (M := 21) (pc := 25) (t := 3) (ci := 0) (by decide) rfl rfl (zd_eq zk21 (by decide +kernel : decode cX2_exchange 25 = .ok (.aastore, 1)))) <|
  zcons (a := (26, zi_rv)) (zs_rv (M := 21) (pc := 26) (zd_eq zk21 (by decide +kernel : decode cX2_exchange 26 = .ok (.return_, 1))) rfl) <| znil
theorem zS21 : ∀ pc, zm_Snd 21 pc (zm_lk2 zm_c21 pc) := zlk2 (zcons2 zS21_0 (znil2))
theorem zS22_0 : ∀ q ∈ zm_c22_0, zm_Snd 22 q.1 q.2 :=
  zcons (a := (0, zi_k (.int 0) 1)) (zs_iconst (M := 22) (pc := 0) (zd_eq zk22 (by decide +kernel : decode cX2_reigning 0 = .ok (.iconst 0, 1))) (by decide)) <|
  zcons (a := (1, zi_is 1 2)) (zs_is_n (M := 22) (pc := 1) (zd_eq zk22 (by decide +kernel : decode cX2_reigning 1 = .ok (.istore_n 1, 1))) (by decide +kernel) (by decide +kernel)) <|
  zcons (a := (2, zi_il 1 3)) (zs_il_n (M := 22) (pc := 2) (zd_eq zk22 (by decide +kernel : decode cX2_reigning 2 = .ok (.iload_n 1, 1)))) <|
  zcons (a := (3, zi_al 0 4)) (zs_al_n (M := 22) (pc := 3) (zd_eq zk22 (by decide +kernel : decode cX2_reigning 3 = .ok (.aload_n 0, 1)))) <|
  zcons (a := (4, zi_gi 2 1 7)) (zs_gi (M := 22) (pc := 4) (n := 0) (ci := 2) (k := 1) (C := RX2) (T := TX2) (N := 2) (zd_eq zk22 (by decide +kernel : decode cX2_reigning 4 = .ok (.getfield 18, 3))) rfl (by decide) (by decide) zin_2 (zl_f zo22 zw_109)) <|
  zcons (a := (7, zi_b2 (fun x y => y ≤ x) 30 10)) (zs_icmpge (M := 22) (pc := 7) (zd_eq zk22 (by decide +kernel : decode cX2_reigning 7 = .ok (.if_icmp .ge 23, 3))) (by decide)) <|
  zcons (a := (10, zi_al 0 11)) (zs_al_n (M := 22) (pc := 10) (zd_eq zk22 (by decide +kernel : decode cX2_reigning 10 = .ok (.aload_n 0, 1)))) <|
  zcons (a := (11, zi_gr 2 0 14)) (zs_gr (M := 22) (pc := 11) (n := 0) (ci := 2) (k := 0) (C := RX2) (T := TX2) (N := 2) (zd_eq zk22 (by decide +kernel : decode cX2_reigning 11 = .ok (.getfield 11, 3))) rfl (by decide) (by decide) zin_2 (zl_f zo22 zw_107)) <|
  zcons (a := (14, zi_il 1 15)) (zs_il_n (M := 22) (pc := 14) (zd_eq zk22 (by decide +kernel : decode cX2_reigning 14 = .ok (.iload_n 1, 1)))) <|
  zcons (a := (15, zi_qld 3 16)) (zs_qld (M := 22) (pc := 15) (t := 3) rfl (zd_eq zk22 (by decide +kernel : decode cX2_reigning 15 = .ok (.aaload, 1)))) <|
  zcons (a := (16, zi_cv 13 0 0 19 1)) (zs_cv (M := 22) (pc := 16) (M' := 13) (k := 0) (kd := 1) (ci := 0) (q := (RX0, TX0, 3)) (zd_eq zk22 (by decide +kernel : decode cX2_reigning 16 = .ok (.invokevirtual 35, 3))) zWd13 (zl_m zo22 zy13 zw_438) (zl_i zy13 zw_439) (zl_e zy13 zw_440) (by decide) rfl (by rw [zo13])) <|
  zcons (a := (19, zi_b1 (fun x => x = 0) 24 22)) (zs_ifeq (M := 22) (pc := 19) (zd_eq zk22 (by decide +kernel : decode cX2_reigning 19 = .ok (.ifCond .eq 5, 3))) (by decide)) <|
  zcons (a := (22, zi_il 1 23)) (zs_il_n (M := 22) (pc := 22) (zd_eq zk22 (by decide +kernel : decode cX2_reigning 22 = .ok (.iload_n 1, 1)))) <|
  zcons (a := (23, zi_ri)) (zs_ri (M := 22) (pc := 23) (zd_eq zk22 (by decide +kernel : decode cX2_reigning 23 = .ok (.ireturn, 1))) rfl) <|
  zcons (a := (24, zi_inc 1 1 27)) (zs_inc (M := 22) (pc := 24) (zd_eq zk22 (by decide +kernel : decode cX2_reigning 24 = .ok (.iinc 1 1, 3))) (by decide) (by decide +kernel) (by decide +kernel)) <|
  zcons (a := (27, zi_go 2)) (zs_goto (M := 22) (pc := 27) (zd_eq zk22 (by decide +kernel : decode cX2_reigning 27 = .ok (.goto (-25), 3))) (by decide)) <|
  zcons (a := (30, zi_k (.int (-4)) 32)) (zs_bipush (M := 22) (pc := 30) (zd_eq zk22 (by decide +kernel : decode cX2_reigning 30 = .ok (.bipush (-4), 2))) (by decide)) <|
  zcons (a := (32, zi_ri)) (zs_ri (M := 22) (pc := 32) (zd_eq zk22 (by decide +kernel : decode cX2_reigning 32 = .ok (.ireturn, 1))) rfl) <| znil
theorem zS22 : ∀ pc, zm_Snd 22 pc (zm_lk2 zm_c22 pc) := zlk2 (zcons2 zS22_0 (znil2))
theorem zS23_0 : ∀ q ∈ zm_c23_0, zm_Snd 23 q.1 q.2 :=
  zcons (a := (0, zi_al 0 1)) (zs_al_n (M := 23) (pc := 0) (zd_eq zk23 (by decide +kernel : decode cX2_decreed 0 = .ok (.aload_n 0, 1)))) <|
  zcons (a := (1, zi_cv 22 0 2 4 1)) (zs_cv (M := 23) (pc := 1) (M' := 22) (k := 0) (kd := 1) (ci := 2) (q := (RX2, TX2, 2)) (zd_eq zk23 (by decide +kernel : decode cX2_decreed 1 = .ok (.invokevirtual 39, 3))) zWd22 (zl_m zo23 zy22 zw_446) (zl_i zy22 zw_435) (zl_e zy22 zw_436) (by decide) rfl (by rw [zo22])) <|
  zcons (a := (4, zi_is 1 5)) (zs_is_n (M := 23) (pc := 4) (zd_eq zk23 (by decide +kernel : decode cX2_decreed 4 = .ok (.istore_n 1, 1))) (by decide +kernel) (by decide +kernel)) <|
  zcons (a := (5, zi_il 1 6)) (zs_il_n (M := 23) (pc := 5) (zd_eq zk23 (by decide +kernel : decode cX2_decreed 5 = .ok (.iload_n 1, 1)))) <|
  zcons (a := (6, zi_k (.int (-4)) 8)) (zs_bipush (M := 23) (pc := 6) (zd_eq zk23 (by decide +kernel : decode cX2_decreed 6 = .ok (.bipush (-4), 2))) (by decide)) <|
  zcons (a := (8, zi_b2 (fun x y => ¬ x = y) 16 11)) (zs_icmpne (M := 23) (pc := 8) (zd_eq zk23 (by decide +kernel : decode cX2_decreed 8 = .ok (.if_icmp .ne 8, 3))) (by decide)) <|
  zcons (a := (11, zi_k (.int (-4)) 13)) (zs_bipush (M := 23) (pc := 11) (zd_eq zk23 (by decide +kernel : decode cX2_decreed 11 = .ok (.bipush (-4), 2))) (by decide)) <|
  zcons (a := (13, zi_go 27)) (zs_goto (M := 23) (pc := 13) (zd_eq zk23 (by decide +kernel : decode cX2_decreed 13 = .ok (.goto 14, 3))) (by decide)) <|
  zcons (a := (16, zi_al 0 17)) (zs_al_n (M := 23) (pc := 16) (zd_eq zk23 (by decide +kernel : decode cX2_decreed 16 = .ok (.aload_n 0, 1)))) <|
  zcons (a := (17, zi_gr 2 0 20)) (zs_gr (M := 23) (pc := 17) (n := 0) (ci := 2) (k := 0) (C := RX2) (T := TX2) (N := 2) (zd_eq zk23 (by decide +kernel : decode cX2_decreed 17 = .ok (.getfield 11, 3))) rfl (by decide) (by decide) zin_2 (zl_f zo23 zw_107)) <|
  zcons (a := (20, zi_il 1 21)) (zs_il_n (M := 23) (pc := 20) (zd_eq zk23 (by decide +kernel : decode cX2_decreed 20 = .ok (.iload_n 1, 1)))) <|
  zcons (a := (21, zi_qld 3 22)) (zs_qld (M := 23) (pc := 21) (t := 3) rfl (zd_eq zk23 (by decide +kernel : decode cX2_decreed 21 = .ok (.aaload, 1)))) <|
  zcons (a := (22, zi_gi 0 2 25)) (zs_gi (M := 23) (pc := 22) (n := 0) (ci := 0) (k := 2) (C := RX0) (T := TX0) (N := 3) (zd_eq zk23 (by decide +kernel : decode cX2_decreed 22 = .ok (.getfield 32, 3))) rfl (by decide) (by decide) zin_0 (zl_f zo23 zw_99)) <|
  zcons (a := (25, zi_k (.int 4) 26)) (zs_iconst (M := 23) (pc := 25) (zd_eq zk23 (by decide +kernel : decode cX2_decreed 25 = .ok (.iconst 4, 1))) (by decide)) <|
  zcons (a := (26, zi_rem 27)) (zs_irem (M := 23) (pc := 26) (zd_eq zk23 (by decide +kernel : decode cX2_decreed 26 = .ok (.irem, 1)))) <|
  zcons (a := (27, zi_ri)) (zs_ri (M := 23) (pc := 27) (zd_eq zk23 (by decide +kernel : decode cX2_decreed 27 = .ok (.ireturn, 1))) rfl) <| znil
theorem zS23 : ∀ pc, zm_Snd 23 pc (zm_lk2 zm_c23 pc) := zlk2 (zcons2 zS23_0 (znil2))
theorem zS24_0 : ∀ q ∈ zm_c24_0, zm_Snd 24 q.1 q.2 :=
  zcons (a := (0, zi_k (.int 0) 1)) (zs_iconst (M := 24) (pc := 0) (zd_eq zk24 (by decide +kernel : decode cX2_standingBits 0 = .ok (.iconst 0, 1))) (by decide)) <|
  zcons (a := (1, zi_is 1 2)) (zs_is_n (M := 24) (pc := 1) (zd_eq zk24 (by decide +kernel : decode cX2_standingBits 1 = .ok (.istore_n 1, 1))) (by decide +kernel) (by decide +kernel)) <|
  zcons (a := (2, zi_k (.int 0) 3)) (zs_iconst (M := 24) (pc := 2) (zd_eq zk24 (by decide +kernel : decode cX2_standingBits 2 = .ok (.iconst 0, 1))) (by decide)) <|
  zcons (a := (3, zi_is 2 4)) (zs_is_n (M := 24) (pc := 3) (zd_eq zk24 (by decide +kernel : decode cX2_standingBits 3 = .ok (.istore_n 2, 1))) (by decide +kernel) (by decide +kernel)) <|
  zcons (a := (4, zi_il 2 5)) (zs_il_n (M := 24) (pc := 4) (zd_eq zk24 (by decide +kernel : decode cX2_standingBits 4 = .ok (.iload_n 2, 1)))) <|
  zcons (a := (5, zi_al 0 6)) (zs_al_n (M := 24) (pc := 5) (zd_eq zk24 (by decide +kernel : decode cX2_standingBits 5 = .ok (.aload_n 0, 1)))) <|
  zcons (a := (6, zi_gi 2 1 9)) (zs_gi (M := 24) (pc := 6) (n := 0) (ci := 2) (k := 1) (C := RX2) (T := TX2) (N := 2) (zd_eq zk24 (by decide +kernel : decode cX2_standingBits 6 = .ok (.getfield 18, 3))) rfl (by decide) (by decide) zin_2 (zl_f zo24 zw_109)) <|
  zcons (a := (9, zi_b2 (fun x y => y ≤ x) 36 12)) (zs_icmpge (M := 24) (pc := 9) (zd_eq zk24 (by decide +kernel : decode cX2_standingBits 9 = .ok (.if_icmp .ge 27, 3))) (by decide)) <|
  zcons (a := (12, zi_al 0 13)) (zs_al_n (M := 24) (pc := 12) (zd_eq zk24 (by decide +kernel : decode cX2_standingBits 12 = .ok (.aload_n 0, 1)))) <|
  zcons (a := (13, zi_gr 2 0 16)) (zs_gr (M := 24) (pc := 13) (n := 0) (ci := 2) (k := 0) (C := RX2) (T := TX2) (N := 2) (zd_eq zk24 (by decide +kernel : decode cX2_standingBits 13 = .ok (.getfield 11, 3))) rfl (by decide) (by decide) zin_2 (zl_f zo24 zw_107)) <|
  zcons (a := (16, zi_il 2 17)) (zs_il_n (M := 24) (pc := 16) (zd_eq zk24 (by decide +kernel : decode cX2_standingBits 16 = .ok (.iload_n 2, 1)))) <|
  zcons (a := (17, zi_qld 3 18)) (zs_qld (M := 24) (pc := 17) (t := 3) rfl (zd_eq zk24 (by decide +kernel : decode cX2_standingBits 17 = .ok (.aaload, 1)))) <|
  zcons (a := (18, zi_cv 13 0 0 21 1)) (zs_cv (M := 24) (pc := 18) (M' := 13) (k := 0) (kd := 1) (ci := 0) (q := (RX0, TX0, 3)) (zd_eq zk24 (by decide +kernel : decode cX2_standingBits 18 = .ok (.invokevirtual 35, 3))) zWd13 (zl_m zo24 zy13 zw_438) (zl_i zy13 zw_439) (zl_e zy13 zw_440) (by decide) rfl (by rw [zo13])) <|
  zcons (a := (21, zi_b1 (fun x => x = 0) 30 24)) (zs_ifeq (M := 24) (pc := 21) (zd_eq zk24 (by decide +kernel : decode cX2_standingBits 21 = .ok (.ifCond .eq 9, 3))) (by decide)) <|
  zcons (a := (24, zi_il 1 25)) (zs_il_n (M := 24) (pc := 24) (zd_eq zk24 (by decide +kernel : decode cX2_standingBits 24 = .ok (.iload_n 1, 1)))) <|
  zcons (a := (25, zi_k (.int 1) 26)) (zs_iconst (M := 24) (pc := 25) (zd_eq zk24 (by decide +kernel : decode cX2_standingBits 25 = .ok (.iconst 1, 1))) (by decide)) <|
  zcons (a := (26, zi_il 2 27)) (zs_il_n (M := 24) (pc := 26) (zd_eq zk24 (by decide +kernel : decode cX2_standingBits 26 = .ok (.iload_n 2, 1)))) <|
  zcons (a := (27, zi_bin (fun x y => x <<< (y &&& 31)) 28)) (zs_ishl (M := 24) (pc := 27) (zd_eq zk24 (by decide +kernel : decode cX2_standingBits 27 = .ok (.ishl, 1)))) <|
  zcons (a := (28, zi_bin (· ||| ·) 29)) (zs_ior (M := 24) (pc := 28) (zd_eq zk24 (by decide +kernel : decode cX2_standingBits 28 = .ok (.ior, 1)))) <|
  zcons (a := (29, zi_is 1 30)) (zs_is_n (M := 24) (pc := 29) (zd_eq zk24 (by decide +kernel : decode cX2_standingBits 29 = .ok (.istore_n 1, 1))) (by decide +kernel) (by decide +kernel)) <|
  zcons (a := (30, zi_inc 2 1 33)) (zs_inc (M := 24) (pc := 30) (zd_eq zk24 (by decide +kernel : decode cX2_standingBits 30 = .ok (.iinc 2 1, 3))) (by decide) (by decide +kernel) (by decide +kernel)) <|
  zcons (a := (33, zi_go 4)) (zs_goto (M := 24) (pc := 33) (zd_eq zk24 (by decide +kernel : decode cX2_standingBits 33 = .ok (.goto (-29), 3))) (by decide)) <|
  zcons (a := (36, zi_il 1 37)) (zs_il_n (M := 24) (pc := 36) (zd_eq zk24 (by decide +kernel : decode cX2_standingBits 36 = .ok (.iload_n 1, 1)))) <|
  zcons (a := (37, zi_ri)) (zs_ri (M := 24) (pc := 37) (zd_eq zk24 (by decide +kernel : decode cX2_standingBits 37 = .ok (.ireturn, 1))) rfl) <| znil
theorem zS24 : ∀ pc, zm_Snd 24 pc (zm_lk2 zm_c24 pc) := zlk2 (zcons2 zS24_0 (znil2))
theorem zS25_0 : ∀ q ∈ zm_c25_0, zm_Snd 25 q.1 q.2 :=
  zcons (a := (0, zi_al 0 1)) (zs_al_n (M := 25) (pc := 0) (zd_eq zk25 (by decide +kernel : decode cX2_standingNumber 0 = .ok (.aload_n 0, 1)))) <|
  zcons (a := (1, zi_cv 24 0 2 4 1)) (zs_cv (M := 25) (pc := 1) (M' := 24) (k := 0) (kd := 1) (ci := 2) (q := (RX2, TX2, 2)) (zd_eq zk25 (by decide +kernel : decode cX2_standingNumber 1 = .ok (.invokevirtual 43, 3))) zWd24 (zl_m zo25 zy24 zw_560) (zl_i zy24 zw_448) (zl_e zy24 zw_449) (by decide) rfl (by rw [zo24])) <|
  zcons (a := (4, zi_cs 0 1 7 1)) (zs_cs (M := 25) (pc := 4) (M' := 0) (k := 1) (kd := 1) (zd_eq zk25 (by decide +kernel : decode cX2_standingNumber 4 = .ok (.invokestatic 46, 3))) zWd0 (zl_m zo25 zy0 zw_561) (zl_s zy0 zw_562)) <|
  zcons (a := (7, zi_ri)) (zs_ri (M := 25) (pc := 7) (zd_eq zk25 (by decide +kernel : decode cX2_standingNumber 7 = .ok (.ireturn, 1))) rfl) <| znil
theorem zS25 : ∀ pc, zm_Snd 25 pc (zm_lk2 zm_c25 pc) := zlk2 (zcons2 zS25_0 (znil2))
theorem zS26_0 : ∀ q ∈ zm_c26_0, zm_Snd 26 q.1 q.2 :=
  zcons (a := (0, zi_k (.int 0) 1)) (zs_iconst (M := 26) (pc := 0) (zd_eq zk26 (by decide +kernel : decode cX2_sizeOfAll 0 = .ok (.iconst 0, 1))) (by decide)) <|
  zcons (a := (1, zi_is 1 2)) (zs_is_n (M := 26) (pc := 1) (zd_eq zk26 (by decide +kernel : decode cX2_sizeOfAll 1 = .ok (.istore_n 1, 1))) (by decide +kernel) (by decide +kernel)) <|
  zcons (a := (2, zi_k (.int 0) 3)) (zs_iconst (M := 26) (pc := 2) (zd_eq zk26 (by decide +kernel : decode cX2_sizeOfAll 2 = .ok (.iconst 0, 1))) (by decide)) <|
  zcons (a := (3, zi_is 2 4)) (zs_is_n (M := 26) (pc := 3) (zd_eq zk26 (by decide +kernel : decode cX2_sizeOfAll 3 = .ok (.istore_n 2, 1))) (by decide +kernel) (by decide +kernel)) <|
  zcons (a := (4, zi_il 2 5)) (zs_il_n (M := 26) (pc := 4) (zd_eq zk26 (by decide +kernel : decode cX2_sizeOfAll 4 = .ok (.iload_n 2, 1)))) <|
  zcons (a := (5, zi_al 0 6)) (zs_al_n (M := 26) (pc := 5) (zd_eq zk26 (by decide +kernel : decode cX2_sizeOfAll 5 = .ok (.aload_n 0, 1)))) <|
  zcons (a := (6, zi_gi 2 1 9)) (zs_gi (M := 26) (pc := 6) (n := 0) (ci := 2) (k := 1) (C := RX2) (T := TX2) (N := 2) (zd_eq zk26 (by decide +kernel : decode cX2_sizeOfAll 6 = .ok (.getfield 18, 3))) rfl (by decide) (by decide) zin_2 (zl_f zo26 zw_109)) <|
  zcons (a := (9, zi_b2 (fun x y => y ≤ x) 30 12)) (zs_icmpge (M := 26) (pc := 9) (zd_eq zk26 (by decide +kernel : decode cX2_sizeOfAll 9 = .ok (.if_icmp .ge 21, 3))) (by decide)) <|
  zcons (a := (12, zi_il 1 13)) (zs_il_n (M := 26) (pc := 12) (zd_eq zk26 (by decide +kernel : decode cX2_sizeOfAll 12 = .ok (.iload_n 1, 1)))) <|
  zcons (a := (13, zi_al 0 14)) (zs_al_n (M := 26) (pc := 13) (zd_eq zk26 (by decide +kernel : decode cX2_sizeOfAll 13 = .ok (.aload_n 0, 1)))) <|
  zcons (a := (14, zi_gr 2 0 17)) (zs_gr (M := 26) (pc := 14) (n := 0) (ci := 2) (k := 0) (C := RX2) (T := TX2) (N := 2) (zd_eq zk26 (by decide +kernel : decode cX2_sizeOfAll 14 = .ok (.getfield 11, 3))) rfl (by decide) (by decide) zin_2 (zl_f zo26 zw_107)) <|
  zcons (a := (17, zi_il 2 18)) (zs_il_n (M := 26) (pc := 17) (zd_eq zk26 (by decide +kernel : decode cX2_sizeOfAll 17 = .ok (.iload_n 2, 1)))) <|
  zcons (a := (18, zi_qld 3 19)) (zs_qld (M := 26) (pc := 18) (t := 3) rfl (zd_eq zk26 (by decide +kernel : decode cX2_sizeOfAll 18 = .ok (.aaload, 1)))) <|
  zcons (a := (19, zi_gi 0 1 22)) (zs_gi (M := 26) (pc := 19) (n := 0) (ci := 0) (k := 1) (C := RX0) (T := TX0) (N := 3) (zd_eq zk26 (by decide +kernel : decode cX2_sizeOfAll 19 = .ok (.getfield 29, 3))) rfl (by decide) (by decide) zin_0 (zl_f zo26 zw_96)) <|
  zcons (a := (22, zi_bin (· + ·) 23)) (zs_iadd (M := 26) (pc := 22) (zd_eq zk26 (by decide +kernel : decode cX2_sizeOfAll 22 = .ok (.iadd, 1)))) <|
  zcons (a := (23, zi_is 1 24)) (zs_is_n (M := 26) (pc := 23) (zd_eq zk26 (by decide +kernel : decode cX2_sizeOfAll 23 = .ok (.istore_n 1, 1))) (by decide +kernel) (by decide +kernel)) <|
  zcons (a := (24, zi_inc 2 1 27)) (zs_inc (M := 26) (pc := 24) (zd_eq zk26 (by decide +kernel : decode cX2_sizeOfAll 24 = .ok (.iinc 2 1, 3))) (by decide) (by decide +kernel) (by decide +kernel)) <|
  zcons (a := (27, zi_go 4)) (zs_goto (M := 26) (pc := 27) (zd_eq zk26 (by decide +kernel : decode cX2_sizeOfAll 27 = .ok (.goto (-23), 3))) (by decide)) <|
  zcons (a := (30, zi_il 1 31)) (zs_il_n (M := 26) (pc := 30) (zd_eq zk26 (by decide +kernel : decode cX2_sizeOfAll 30 = .ok (.iload_n 1, 1)))) <|
  zcons (a := (31, zi_ri)) (zs_ri (M := 26) (pc := 31) (zd_eq zk26 (by decide +kernel : decode cX2_sizeOfAll 31 = .ok (.ireturn, 1))) rfl) <| znil
theorem zS26 : ∀ pc, zm_Snd 26 pc (zm_lk2 zm_c26 pc) := zlk2 (zcons2 zS26_0 (znil2))
theorem zS27_0 : ∀ q ∈ zm_c27_0, zm_Snd 27 q.1 q.2 :=
  zcons (a := (0, zi_k (.int 0) 1)) (zs_iconst (M := 27) (pc := 0) (zd_eq zk27 (by decide +kernel : decode cX2_pass 0 = .ok (.iconst 0, 1))) (by decide)) <|
  zcons (a := (1, zi_is 3 2)) (zs_is_n (M := 27) (pc := 1) (zd_eq zk27 (by decide +kernel : decode cX2_pass 1 = .ok (.istore_n 3, 1))) (by decide +kernel) (by decide +kernel)) <|
  zcons (a := (2, zi_il 3 3)) (zs_il_n (M := 27) (pc := 2) (zd_eq zk27 (by decide +kernel : decode cX2_pass 2 = .ok (.iload_n 3, 1)))) <|
  zcons (a := (3, zi_al 0 4)) (zs_al_n (M := 27) (pc := 3) (zd_eq zk27 (by decide +kernel : decode cX2_pass 3 = .ok (.aload_n 0, 1)))) <|
  zcons (a := (4, zi_gi 2 1 7)) (zs_gi (M := 27) (pc := 4) (n := 0) (ci := 2) (k := 1) (C := RX2) (T := TX2) (N := 2) (zd_eq zk27 (by decide +kernel : decode cX2_pass 4 = .ok (.getfield 18, 3))) rfl (by decide) (by decide) zin_2 (zl_f zo27 zw_109)) <|
  zcons (a := (7, zi_b2 (fun x y => y ≤ x) 27 10)) (zs_icmpge (M := 27) (pc := 7) (zd_eq zk27 (by decide +kernel : decode cX2_pass 7 = .ok (.if_icmp .ge 20, 3))) (by decide)) <|
  zcons (a := (10, zi_al 0 11)) (zs_al_n (M := 27) (pc := 10) (zd_eq zk27 (by decide +kernel : decode cX2_pass 10 = .ok (.aload_n 0, 1)))) <|
  zcons (a := (11, zi_gr 2 0 14)) (zs_gr (M := 27) (pc := 11) (n := 0) (ci := 2) (k := 0) (C := RX2) (T := TX2) (N := 2) (zd_eq zk27 (by decide +kernel : decode cX2_pass 11 = .ok (.getfield 11, 3))) rfl (by decide) (by decide) zin_2 (zl_f zo27 zw_107)) <|
  zcons (a := (14, zi_il 3 15)) (zs_il_n (M := 27) (pc := 14) (zd_eq zk27 (by decide +kernel : decode cX2_pass 14 = .ok (.iload_n 3, 1)))) <|
  zcons (a := (15, zi_qld 3 16)) (zs_qld (M := 27) (pc := 15) (t := 3) rfl (zd_eq zk27 (by decide +kernel : decode cX2_pass 15 = .ok (.aaload, 1)))) <|
  zcons (a := (16, zi_il 1 17)) (zs_il_n (M := 27) (pc := 16) (zd_eq zk27 (by decide +kernel : decode cX2_pass 16 = .ok (.iload_n 1, 1)))) <|
  zcons (a := (17, zi_il 2 18)) (zs_il_n (M := 27) (pc := 17) (zd_eq zk27 (by decide +kernel : decode cX2_pass 17 = .ok (.iload_n 2, 1)))) <|
  zcons (a := (18, zi_cv 17 2 0 21 0)) (zs_cv (M := 27) (pc := 18) (M' := 17) (k := 2) (kd := 0) (ci := 0) (q := (RX0, TX0, 3)) (zd_eq zk27 (by decide +kernel : decode cX2_pass 18 = .ok (.invokevirtual 52, 3))) zWd17 (zl_m zo27 zy17 zw_540) (zl_i zy17 zw_541) (zl_e zy17 zw_542) (by decide) rfl (by rw [zo17])) <|
  zcons (a := (21, zi_inc 3 1 24)) (zs_inc (M := 27) (pc := 21) (zd_eq zk27 (by decide +kernel : decode cX2_pass 21 = .ok (.iinc 3 1, 3))) (by decide) (by decide +kernel) (by decide +kernel)) <|
  zcons (a := (24, zi_go 2)) (zs_goto (M := 27) (pc := 24) (zd_eq zk27 (by decide +kernel : decode cX2_pass 24 = .ok (.goto (-22), 3))) (by decide)) <|
  zcons (a := (27, zi_rv)) (zs_rv (M := 27) (pc := 27) (zd_eq zk27 (by decide +kernel : decode cX2_pass 27 = .ok (.return_, 1))) rfl) <| znil
theorem zS27 : ∀ pc, zm_Snd 27 pc (zm_lk2 zm_c27 pc) := zlk2 (zcons2 zS27_0 (znil2))
theorem zS28_0 : ∀ q ∈ zm_c28_0, zm_Snd 28 q.1 q.2 :=
  zcons (a := (0, zi_al 0 1)) (zs_al_n (M := 28) (pc := 0) (zd_eq zk28 (by decide +kernel : decode cX1_init 0 = .ok (.aload_n 0, 1)))) <|
  zcons (a := (1, zi_oi 4)) (zs_oi (M := 28) (pc := 1) (zd_eq zk28 (by decide +kernel : decode cX1_init 1 = .ok (.invokespecial 3, 3))) (zl_mo zo28 zw_78) zw_71 zw_72) <|
  zcons (a := (4, zi_al 0 5)) (zs_al_n (M := 28) (pc := 4) (zd_eq zk28 (by decide +kernel : decode cX1_init 4 = .ok (.aload_n 0, 1)))) <|
  zcons (a := (5, zi_new 2 8)) (zs_new (M := 28) (pc := 5) (ci := 2) (C := RX2) (T := TX2) (N := 2) (ty := tyX2) (zd_eq zk28 (by decide +kernel : decode cX1_init 5 = .ok (.new 9, 3))) rfl rfl zin_2 tyX2_ok (zl_c zo28 zw_79) zw_80 zw_51 zdf_2 zvr_2) <|
  zcons (a := (8, zi_dup 9)) (zs_dup (M := 28) (pc := 8) (zd_eq zk28 (by decide +kernel : decode cX1_init 8 = .ok (.dup, 1)))) <|
  zcons (a := (9, zi_ci 18 0 12 0)) (zs_ci (M := 28) (pc := 9) (M' := 18) (k := 0) (kd := 0) (zd_eq zk28 (by decide +kernel : decode cX1_init 9 = .ok (.invokespecial 11, 3))) zWd18 (Or.inl (zl_m zo28 zy18 zw_81)) (zl_i zy18 zw_82) rfl (by rw [zy18]; rfl)) <|
  zcons (a := (12, zi_pr 1 0 15)) (zs_pr (M := 28) (pc := 12) (ci := 1) (k := 0) (C := RX1) (T := TX1) (N := 4) (ty0 := tyX1) (zd_eq zk28 (by decide +kernel : decode cX1_init 12 = .ok (.putfield 12, 3))) rfl (by decide) (by decide) zin_1 (zl_f zo28 zw_121) tyX1_ok nmX1 rfl (by rw [zy28]; rfl) (by rw [zo28]; rfl) (tyX1_ok 0 (by decide)) (fun _ => rfl) (fun _ => rfl)) <|
  zcons (a := (15, zi_al 0 16)) (zs_al_n (M := 28) (pc := 15) (zd_eq zk28 (by decide +kernel : decode cX1_init 15 = .ok (.aload_n 0, 1)))) <|
  zcons (a := (16, zi_k (.int 7) 18)) (zs_bipush (M := 28) (pc := 16) (zd_eq zk28 (by decide +kernel : decode cX1_init 16 = .ok (.bipush 7, 2))) (by decide)) <|
  zcons (a := (18, zi_na 0 20)) (zs_na (M := 28) (pc := 18) (t := 0) (at_ := .int) (zd_eq zk28 (by decide +kernel : decode cX1_init 18 = .ok (.newarray .int, 2))) rfl zw_141 rfl (by decide)) <|
  zcons (a := (20, zi_pr 1 1 23)) (zs_pr (M := 28) (pc := 20) (ci := 1) (k := 1) (C := RX1) (T := TX1) (N := 4) (ty0 := tyX1) (zd_eq zk28 (by decide +kernel : decode cX1_init 20 = .ok (.putfield 18, 3))) rfl (by decide) (by decide) zin_1 (zl_f zo28 zw_124) tyX1_ok nmX1 rfl (by rw [zy28]; rfl) (by rw [zo28]; rfl) (tyX1_ok 1 (by decide)) (fun _ => rfl) (fun _ => rfl)) <|
  zcons (a := (23, zi_al 0 24)) (zs_al_n (M := 28) (pc := 23) (zd_eq zk28 (by decide +kernel : decode cX1_init 23 = .ok (.aload_n 0, 1)))) <|
  zcons (a := (24, zi_k (.int 7) 26)) (zs_bipush (M := 28) (pc := 24) (zd_eq zk28 (by decide +kernel : decode cX1_init 24 = .ok (.bipush 7, 2))) (by decide)) <|
  zcons (a := (26, zi_na 0 28)) (zs_na (M := 28) (pc := 26) (t := 0) (at_ := .int) (zd_eq zk28 (by decide +kernel : decode cX1_init 26 = .ok (.newarray .int, 2))) rfl zw_141 rfl (by decide)) <|
  zcons (a := (28, zi_pr 1 2 31)) (zs_pr (M := 28) (pc := 28) (ci := 1) (k := 2) (C := RX1) (T := TX1) (N := 4) (ty0 := tyX1) (zd_eq zk28 (by decide +kernel : decode cX1_init 28 = .ok (.putfield 22, 3))) rfl (by decide) (by decide) zin_1 (zl_f zo28 zw_127) tyX1_ok nmX1 rfl (by rw [zy28]; rfl) (by rw [zo28]; rfl) (tyX1_ok 2 (by decide)) (fun _ => rfl) (fun _ => rfl)) <|
  zcons (a := (31, zi_al 0 32)) (zs_al_n (M := 28) (pc := 31) (zd_eq zk28 (by decide +kernel : decode cX1_init 31 = .ok (.aload_n 0, 1)))) <|
  zcons (a := (32, zi_gr 1 1 35)) (zs_gr (M := 28) (pc := 32) (n := 0) (ci := 1) (k := 1) (C := RX1) (T := TX1) (N := 4) (zd_eq zk28 (by decide +kernel : decode cX1_init 32 = .ok (.getfield 18, 3))) rfl (by decide) (by decide) zin_1 (zl_f zo28 zw_124)) <|
  zcons (a := (35, zi_k (.int 1) 36)) (zs_iconst (M := 28) (pc := 35) (zd_eq zk28 (by decide +kernel : decode cX1_init 35 = .ok (.iconst 1, 1))) (by decide)) <|
  zcons (a := (36, zi_cs 1 2 39 0)) (zs_cs (M := 28) (pc := 36) (M' := 1) (k := 2) (kd := 0) (zd_eq zk28 (by decide +kernel : decode cX1_init 36 = .ok (.invokestatic 25, 3))) zWd1 (zl_m zo28 zy1 zw_118) (zl_s zy1 zw_119)) <|
  zcons (a := (39, zi_al 0 40)) (zs_al_n (M := 28) (pc := 39) (zd_eq zk28 (by decide +kernel : decode cX1_init 39 = .ok (.aload_n 0, 1)))) <|
  zcons (a := (40, zi_gr 1 2 43)) (zs_gr (M := 28) (pc := 40) (n := 0) (ci := 1) (k := 2) (C := RX1) (T := TX1) (N := 4) (zd_eq zk28 (by decide +kernel : decode cX1_init 40 = .ok (.getfield 22, 3))) rfl (by decide) (by decide) zin_1 (zl_f zo28 zw_127)) <|
  zcons (a := (43, zi_k (.int 4) 44)) (zs_iconst (M := 28) (pc := 43) (zd_eq zk28 (by decide +kernel : decode cX1_init 43 = .ok (.iconst 4, 1))) (by decide)) <|
  zcons (a := (44, zi_cs 1 2 47 0)) (zs_cs (M := 28) (pc := 44) (M' := 1) (k := 2) (kd := 0) (zd_eq zk28 (by decide +kernel : decode cX1_init 44 = .ok (.invokestatic 25, 3))) zWd1 (zl_m zo28 zy1 zw_118) (zl_s zy1 zw_119)) <|
  zcons (a := (47, zi_rv)) (zs_rv (M := 28) (pc := 47) (zd_eq zk28 (by decide +kernel : decode cX1_init 47 = .ok (.return_, 1))) rfl) <| znil
theorem zS28 : ∀ pc, zm_Snd 28 pc (zm_lk2 zm_c28 pc) := zlk2 (zcons2 zS28_0 (znil2))
theorem zS29_0 : ∀ q ∈ zm_c29_0, zm_Snd 29 q.1 q.2 :=
  zcons (a := (0, zi_al 0 1)) (zs_al_n (M := 29) (pc := 0) (zd_eq zk29 (by decide +kernel : decode cX1_renew 0 = .ok (.aload_n 0, 1)))) <|
  zcons (a := (1, zi_gr 1 0 4)) (zs_gr (M := 29) (pc := 1) (n := 0) (ci := 1) (k := 0) (C := RX1) (T := TX1) (N := 4) (zd_eq zk29 (by decide +kernel : decode cX1_renew 1 = .ok (.getfield 12, 3))) rfl (by decide) (by decide) zin_1 (zl_f zo29 zw_121)) <|
  zcons (a := (4, zi_k (.int 0) 5)) (zs_iconst (M := 29) (pc := 4) (zd_eq zk29 (by decide +kernel : decode cX1_renew 4 = .ok (.iconst 0, 1))) (by decide)) <|
  zcons (a := (5, zi_pf 2 1 8)) (zs_pf (M := 29) (pc := 5) (ci := 2) (k := 1) (C := RX2) (T := TX2) (N := 2) (ty0 := tyX2) (zd_eq zk29 (by decide +kernel : decode cX1_renew 5 = .ok (.putfield 31, 3))) rfl (by decide) (by decide) zin_2 (zl_f zo29 zw_110) tyX2_ok nmX2 rfl (tyX2_ok 1 (by decide))) <|
  zcons (a := (8, zi_al 0 9)) (zs_al_n (M := 29) (pc := 8) (zd_eq zk29 (by decide +kernel : decode cX1_renew 8 = .ok (.aload_n 0, 1)))) <|
  zcons (a := (9, zi_gr 1 1 12)) (zs_gr (M := 29) (pc := 9) (n := 0) (ci := 1) (k := 1) (C := RX1) (T := TX1) (N := 4) (zd_eq zk29 (by decide +kernel : decode cX1_renew 9 = .ok (.getfield 18, 3))) rfl (by decide) (by decide) zin_1 (zl_f zo29 zw_124)) <|
  zcons (a := (12, zi_k (.int 1) 13)) (zs_iconst (M := 29) (pc := 12) (zd_eq zk29 (by decide +kernel : decode cX1_renew 12 = .ok (.iconst 1, 1))) (by decide)) <|
  zcons (a := (13, zi_cs 1 2 16 0)) (zs_cs (M := 29) (pc := 13) (M' := 1) (k := 2) (kd := 0) (zd_eq zk29 (by decide +kernel : decode cX1_renew 13 = .ok (.invokestatic 25, 3))) zWd1 (zl_m zo29 zy1 zw_118) (zl_s zy1 zw_119)) <|
  zcons (a := (16, zi_al 0 17)) (zs_al_n (M := 29) (pc := 16) (zd_eq zk29 (by decide +kernel : decode cX1_renew 16 = .ok (.aload_n 0, 1)))) <|
  zcons (a := (17, zi_gr 1 2 20)) (zs_gr (M := 29) (pc := 17) (n := 0) (ci := 1) (k := 2) (C := RX1) (T := TX1) (N := 4) (zd_eq zk29 (by decide +kernel : decode cX1_renew 17 = .ok (.getfield 22, 3))) rfl (by decide) (by decide) zin_1 (zl_f zo29 zw_127)) <|
  zcons (a := (20, zi_k (.int 4) 21)) (zs_iconst (M := 29) (pc := 20) (zd_eq zk29 (by decide +kernel : decode cX1_renew 20 = .ok (.iconst 4, 1))) (by decide)) <|
  zcons (a := (21, zi_cs 1 2 24 0)) (zs_cs (M := 29) (pc := 21) (M' := 1) (k := 2) (kd := 0) (zd_eq zk29 (by decide +kernel : decode cX1_renew 21 = .ok (.invokestatic 25, 3))) zWd1 (zl_m zo29 zy1 zw_118) (zl_s zy1 zw_119)) <|
  zcons (a := (24, zi_al 0 25)) (zs_al_n (M := 29) (pc := 24) (zd_eq zk29 (by decide +kernel : decode cX1_renew 24 = .ok (.aload_n 0, 1)))) <|
  zcons (a := (25, zi_k (.int 0) 26)) (zs_iconst (M := 29) (pc := 25) (zd_eq zk29 (by decide +kernel : decode cX1_renew 25 = .ok (.iconst 0, 1))) (by decide)) <|
  zcons (a := (26, zi_pf 1 3 29)) (zs_pf (M := 29) (pc := 26) (ci := 1) (k := 3) (C := RX1) (T := TX1) (N := 4) (ty0 := tyX1) (zd_eq zk29 (by decide +kernel : decode cX1_renew 26 = .ok (.putfield 35, 3))) rfl (by decide) (by decide) zin_1 (zl_f zo29 zw_130) tyX1_ok nmX1 rfl (tyX1_ok 3 (by decide))) <|
  zcons (a := (29, zi_rv)) (zs_rv (M := 29) (pc := 29) (zd_eq zk29 (by decide +kernel : decode cX1_renew 29 = .ok (.return_, 1))) rfl) <| znil
theorem zS29 : ∀ pc, zm_Snd 29 pc (zm_lk2 zm_c29 pc) := zlk2 (zcons2 zS29_0 (znil2))
theorem zS30_0 : ∀ q ∈ zm_c30_0, zm_Snd 30 q.1 q.2 :=
  zcons (a := (0, zi_al 0 1)) (zs_al_n (M := 30) (pc := 0) (zd_eq zk30 (by decide +kernel : decode cX1_copyOf 0 = .ok (.aload_n 0, 1)))) <|
  zcons (a := (1, zi_gr 1 0 4)) (zs_gr (M := 30) (pc := 1) (n := 0) (ci := 1) (k := 0) (C := RX1) (T := TX1) (N := 4) (zd_eq zk30 (by decide +kernel : decode cX1_copyOf 1 = .ok (.getfield 12, 3))) rfl (by decide) (by decide) zin_1 (zl_f zo30 zw_121)) <|
  zcons (a := (4, zi_al 1 5)) (zs_al_n (M := 30) (pc := 4) (zd_eq zk30 (by decide +kernel : decode cX1_copyOf 4 = .ok (.aload_n 1, 1)))) <|
  zcons (a := (5, zi_gr 1 0 8)) (zs_gr (M := 30) (pc := 5) (n := 0) (ci := 1) (k := 0) (C := RX1) (T := TX1) (N := 4) (zd_eq zk30 (by decide +kernel : decode cX1_copyOf 5 = .ok (.getfield 12, 3))) rfl (by decide) (by decide) zin_1 (zl_f zo30 zw_121)) <|
  zcons (a := (8, zi_cv 19 1 2 11 0)) (zs_cv (M := 30) (pc := 8) (M' := 19) (k := 1) (kd := 0) (ci := 2) (q := (RX2, TX2, 2)) (zd_eq zk30 (by decide +kernel : decode cX1_copyOf 8 = .ok (.invokevirtual 38, 3))) zWd19 (zl_m zo30 zy19 zw_415) (zl_i zy19 zw_416) (zl_e zy19 zw_417) (by decide) rfl (by rw [zo19])) <|
  zcons (a := (11, zi_al 1 12)) (zs_al_n (M := 30) (pc := 11) (zd_eq zk30 (by decide +kernel : decode cX1_copyOf 11 = .ok (.aload_n 1, 1)))) <|
  zcons (a := (12, zi_gr 1 1 15)) (zs_gr (M := 30) (pc := 12) (n := 0) (ci := 1) (k := 1) (C := RX1) (T := TX1) (N := 4) (zd_eq zk30 (by decide +kernel : decode cX1_copyOf 12 = .ok (.getfield 18, 3))) rfl (by decide) (by decide) zin_1 (zl_f zo30 zw_124)) <|
  zcons (a := (15, zi_k (.int 0) 16)) (zs_iconst (M := 30) (pc := 15) (zd_eq zk30 (by decide +kernel : decode cX1_copyOf 15 = .ok (.iconst 0, 1))) (by decide)) <|
  zcons (a := (16, zi_al 0 17)) (zs_al_n (M := 30) (pc := 16) (zd_eq zk30 (by decide +kernel : decode cX1_copyOf 16 = .ok (.aload_n 0, 1)))) <|
  zcons (a := (17, zi_gr 1 1 20)) (zs_gr (M := 30) (pc := 17) (n := 0) (ci := 1) (k := 1) (C := RX1) (T := TX1) (N := 4) (zd_eq zk30 (by decide +kernel : decode cX1_copyOf 17 = .ok (.getfield 18, 3))) rfl (by decide) (by decide) zin_1 (zl_f zo30 zw_124)) <|
  zcons (a := (20, zi_k (.int 0) 21)) (zs_iconst (M := 30) (pc := 20) (zd_eq zk30 (by decide +kernel : decode cX1_copyOf 20 = .ok (.iconst 0, 1))) (by decide)) <|
  zcons (a := (21, zi_k (.int 7) 23)) (zs_bipush (M := 30) (pc := 21) (zd_eq zk30 (by decide +kernel : decode cX1_copyOf 21 = .ok (.bipush 7, 2))) (by decide)) <|
  zcons (a := (23, zi_cpy 26)) (zs_cpy (M := 30) (pc := 23) (zd_eq zk30 (by decide +kernel : decode cX1_copyOf 23 = .ok (.invokestatic 42, 3))) (zl_mo zo30 zw_423) zw_425 zw_424 zw_62) <|
  zcons (a := (26, zi_al 1 27)) (zs_al_n (M := 30) (pc := 26) (zd_eq zk30 (by decide +kernel : decode cX1_copyOf 26 = .ok (.aload_n 1, 1)))) <|
  zcons (a := (27, zi_gr 1 2 30)) (zs_gr (M := 30) (pc := 27) (n := 0) (ci := 1) (k := 2) (C := RX1) (T := TX1) (N := 4) (zd_eq zk30 (by decide +kernel : decode cX1_copyOf 27 = .ok (.getfield 22, 3))) rfl (by decide) (by decide) zin_1 (zl_f zo30 zw_127)) <|
  zcons (a := (30, zi_k (.int 0) 31)) (zs_iconst (M := 30) (pc := 30) (zd_eq zk30 (by decide +kernel : decode cX1_copyOf 30 = .ok (.iconst 0, 1))) (by decide)) <|
  zcons (a := (31, zi_al 0 32)) (zs_al_n (M := 30) (pc := 31) (zd_eq zk30 (by decide +kernel : decode cX1_copyOf 31 = .ok (.aload_n 0, 1)))) <|
  zcons (a := (32, zi_gr 1 2 35)) (zs_gr (M := 30) (pc := 32) (n := 0) (ci := 1) (k := 2) (C := RX1) (T := TX1) (N := 4) (zd_eq zk30 (by decide +kernel : decode cX1_copyOf 32 = .ok (.getfield 22, 3))) rfl (by decide) (by decide) zin_1 (zl_f zo30 zw_127)) <|
  zcons (a := (35, zi_k (.int 0) 36)) (zs_iconst (M := 30) (pc := 35) (zd_eq zk30 (by decide +kernel : decode cX1_copyOf 35 = .ok (.iconst 0, 1))) (by decide)) <|
  zcons (a := (36, zi_k (.int 7) 38)) (zs_bipush (M := 30) (pc := 36) (zd_eq zk30 (by decide +kernel : decode cX1_copyOf 36 = .ok (.bipush 7, 2))) (by decide)) <|
  zcons (a := (38, zi_cpy 41)) (zs_cpy (M := 30) (pc := 38) (zd_eq zk30 (by decide +kernel : decode cX1_copyOf 38 = .ok (.invokestatic 42, 3))) (zl_mo zo30 zw_423) zw_425 zw_424 zw_62) <|
  zcons (a := (41, zi_al 0 42)) (zs_al_n (M := 30) (pc := 41) (zd_eq zk30 (by decide +kernel : decode cX1_copyOf 41 = .ok (.aload_n 0, 1)))) <|
  zcons (a := (42, zi_al 1 43)) (zs_al_n (M := 30) (pc := 42) (zd_eq zk30 (by decide +kernel : decode cX1_copyOf 42 = .ok (.aload_n 1, 1)))) <|
  zcons (a := (43, zi_gi 1 3 46)) (zs_gi (M := 30) (pc := 43) (n := 0) (ci := 1) (k := 3) (C := RX1) (T := TX1) (N := 4) (zd_eq zk30 (by decide +kernel : decode cX1_copyOf 43 = .ok (.getfield 35, 3))) rfl (by decide) (by decide) zin_1 (zl_f zo30 zw_130)) <| znil
theorem zS30_1 : ∀ q ∈ zm_c30_1, zm_Snd 30 q.1 q.2 :=
  zcons (a := (46, zi_pf 1 3 49)) (zs_pf (M := 30) (pc := 46) (ci := 1) (k := 3) (C := RX1) (T := TX1) (N := 4) (ty0 := tyX1) (zd_eq zk30 (by decide +kernel : decode cX1_copyOf 46 = .ok (.putfield 35, 3))) rfl (by decide) (by decide) zin_1 (zl_f zo30 zw_130) tyX1_ok nmX1 rfl (tyX1_ok 3 (by decide))) <|
  zcons (a := (49, zi_rv)) (zs_rv (M := 30) (pc := 49) (zd_eq zk30 (by decide +kernel : decode cX1_copyOf 49 = .ok (.return_, 1))) rfl) <| znil
theorem zS30 : ∀ pc, zm_Snd 30 pc (zm_lk2 zm_c30 pc) := zlk2 (zcons2 zS30_0 (zcons2 zS30_1 (znil2)))
theorem zS31_0 : ∀ q ∈ zm_c31_0, zm_Snd 31 q.1 q.2 :=
  zcons (a := (0, zi_al 0 1)) (zs_al_n (M := 31) (pc := 0) (zd_eq zk31 (by decide +kernel : decode cX1_weekday 0 = .ok (.aload_n 0, 1)))) <|
  zcons (a := (1, zi_gi 1 3 4)) (zs_gi (M := 31) (pc := 1) (n := 0) (ci := 1) (k := 3) (C := RX1) (T := TX1) (N := 4) (zd_eq zk31 (by decide +kernel : decode cX1_weekday 1 = .ok (.getfield 35, 3))) rfl (by decide) (by decide) zin_1 (zl_f zo31 zw_130)) <|
  zcons (a := (4, zi_k (.int 7) 6)) (zs_bipush (M := 31) (pc := 4) (zd_eq zk31 (by decide +kernel : decode cX1_weekday 4 = .ok (.bipush 7, 2))) (by decide)) <|
  zcons (a := (6, zi_rem 7)) (zs_irem (M := 31) (pc := 6) (zd_eq zk31 (by decide +kernel : decode cX1_weekday 6 = .ok (.irem, 1)))) <|
  zcons (a := (7, zi_ri)) (zs_ri (M := 31) (pc := 7) (zd_eq zk31 (by decide +kernel : decode cX1_weekday 7 = .ok (.ireturn, 1))) rfl) <| znil
theorem zS31 : ∀ pc, zm_Snd 31 pc (zm_lk2 zm_c31 pc) := zlk2 (zcons2 zS31_0 (znil2))
theorem zS32_0 : ∀ q ∈ zm_c32_0, zm_Snd 32 q.1 q.2 :=
  zcons (a := (0, zi_al 0 1)) (zs_al_n (M := 32) (pc := 0) (zd_eq zk32 (by decide +kernel : decode cX1_pass 0 = .ok (.aload_n 0, 1)))) <|
  zcons (a := (1, zi_cv 31 0 1 4 1)) (zs_cv (M := 32) (pc := 1) (M' := 31) (k := 0) (kd := 1) (ci := 1) (q := (RX1, TX1, 4)) (zd_eq zk32 (by decide +kernel : decode cX1_pass 1 = .ok (.invokevirtual 48, 3))) zWd31 (zl_m zo32 zy31 zw_535) (zl_i zy31 zw_464) (zl_e zy31 zw_465) (by decide) rfl (by rw [zo31])) <|
  zcons (a := (4, zi_is 1 5)) (zs_is_n (M := 32) (pc := 4) (zd_eq zk32 (by decide +kernel : decode cX1_pass 4 = .ok (.istore_n 1, 1))) (by decide +kernel) (by decide +kernel)) <|
  zcons (a := (5, zi_al 0 6)) (zs_al_n (M := 32) (pc := 5) (zd_eq zk32 (by decide +kernel : decode cX1_pass 5 = .ok (.aload_n 0, 1)))) <|
  zcons (a := (6, zi_gr 1 0 9)) (zs_gr (M := 32) (pc := 6) (n := 0) (ci := 1) (k := 0) (C := RX1) (T := TX1) (N := 4) (zd_eq zk32 (by decide +kernel : decode cX1_pass 6 = .ok (.getfield 12, 3))) rfl (by decide) (by decide) zin_1 (zl_f zo32 zw_121)) <|
  zcons (a := (9, zi_al 0 10)) (zs_al_n (M := 32) (pc := 9) (zd_eq zk32 (by decide +kernel : decode cX1_pass 9 = .ok (.aload_n 0, 1)))) <|
  zcons (a := (10, zi_gr 1 1 13)) (zs_gr (M := 32) (pc := 10) (n := 0) (ci := 1) (k := 1) (C := RX1) (T := TX1) (N := 4) (zd_eq zk32 (by decide +kernel : decode cX1_pass 10 = .ok (.getfield 18, 3))) rfl (by decide) (by decide) zin_1 (zl_f zo32 zw_124)) <|
  zcons (a := (13, zi_il 1 14)) (zs_il_n (M := 32) (pc := 13) (zd_eq zk32 (by decide +kernel : decode cX1_pass 13 = .ok (.iload_n 1, 1)))) <|
  zcons (a := (14, zi_ald 0 15)) (zs_iald (M := 32) (pc := 14) (zd_eq zk32 (by decide +kernel : decode cX1_pass 14 = .ok (.iaload, 1)))) <|
  zcons (a := (15, zi_al 0 16)) (zs_al_n (M := 32) (pc := 15) (zd_eq zk32 (by decide +kernel : decode cX1_pass 15 = .ok (.aload_n 0, 1)))) <|
  zcons (a := (16, zi_gr 1 2 19)) (zs_gr (M := 32) (pc := 16) (n := 0) (ci := 1) (k := 2) (C := RX1) (T := TX1) (N := 4) (zd_eq zk32 (by decide +kernel : decode cX1_pass 16 = .ok (.getfield 22, 3))) rfl (by decide) (by decide) zin_1 (zl_f zo32 zw_127)) <|
  zcons (a := (19, zi_il 1 20)) (zs_il_n (M := 32) (pc := 19) (zd_eq zk32 (by decide +kernel : decode cX1_pass 19 = .ok (.iload_n 1, 1)))) <|
  zcons (a := (20, zi_ald 0 21)) (zs_iald (M := 32) (pc := 20) (zd_eq zk32 (by decide +kernel : decode cX1_pass 20 = .ok (.iaload, 1)))) <|
  zcons (a := (21, zi_cv 27 2 2 24 0)) (zs_cv (M := 32) (pc := 21) (M' := 27) (k := 2) (kd := 0) (ci := 2) (q := (RX2, TX2, 2)) (zd_eq zk32 (by decide +kernel : decode cX1_pass 21 = .ok (.invokevirtual 52, 3))) zWd27 (zl_m zo32 zy27 zw_536) (zl_i zy27 zw_537) (zl_e zy27 zw_538) (by decide) rfl (by rw [zo27])) <|
  zcons (a := (24, zi_al 0 25)) (zs_al_n (M := 32) (pc := 24) (zd_eq zk32 (by decide +kernel : decode cX1_pass 24 = .ok (.aload_n 0, 1)))) <|
  zcons (a := (25, zi_dup 26)) (zs_dup (M := 32) (pc := 25) (zd_eq zk32 (by decide +kernel : decode cX1_pass 25 = .ok (.dup, 1)))) <|
  zcons (a := (26, zi_gi 1 3 29)) (zs_gi (M := 32) (pc := 26) (n := 0) (ci := 1) (k := 3) (C := RX1) (T := TX1) (N := 4) (zd_eq zk32 (by decide +kernel : decode cX1_pass 26 = .ok (.getfield 35, 3))) rfl (by decide) (by decide) zin_1 (zl_f zo32 zw_130)) <|
  zcons (a := (29, zi_k (.int 1) 30)) (zs_iconst (M := 32) (pc := 29) (zd_eq zk32 (by decide +kernel : decode cX1_pass 29 = .ok (.iconst 1, 1))) (by decide)) <|
  zcons (a := (30, zi_bin (· + ·) 31)) (zs_iadd (M := 32) (pc := 30) (zd_eq zk32 (by decide +kernel : decode cX1_pass 30 = .ok (.iadd, 1)))) <|
  zcons (a := (31, zi_pf 1 3 34)) (zs_pf (M := 32) (pc := 31) (ci := 1) (k := 3) (C := RX1) (T := TX1) (N := 4) (ty0 := tyX1) (zd_eq zk32 (by decide +kernel : decode cX1_pass 31 = .ok (.putfield 35, 3))) rfl (by decide) (by decide) zin_1 (zl_f zo32 zw_130) tyX1_ok nmX1 rfl (tyX1_ok 3 (by decide))) <|
  zcons (a := (34, zi_rv)) (zs_rv (M := 32) (pc := 34) (zd_eq zk32 (by decide +kernel : decode cX1_pass 34 = .ok (.return_, 1))) rfl) <| znil
theorem zS32 : ∀ pc, zm_Snd 32 pc (zm_lk2 zm_c32 pc) := zlk2 (zcons2 zS32_0 (znil2))
theorem zS33_0 : ∀ q ∈ zm_c33_0, zm_Snd 33 q.1 q.2 :=
  zcons (a := (0, zi_k (.int 0) 1)) (zs_iconst (M := 33) (pc := 0) (zd_eq zk33 (by decide +kernel : decode cX1_run 0 = .ok (.iconst 0, 1))) (by decide)) <|
  zcons (a := (1, zi_is 2 2)) (zs_is_n (M := 33) (pc := 1) (zd_eq zk33 (by decide +kernel : decode cX1_run 1 = .ok (.istore_n 2, 1))) (by decide +kernel) (by decide +kernel)) <|
  zcons (a := (2, zi_il 2 3)) (zs_il_n (M := 33) (pc := 2) (zd_eq zk33 (by decide +kernel : decode cX1_run 2 = .ok (.iload_n 2, 1)))) <|
  zcons (a := (3, zi_il 1 4)) (zs_il_n (M := 33) (pc := 3) (zd_eq zk33 (by decide +kernel : decode cX1_run 3 = .ok (.iload_n 1, 1)))) <|
  zcons (a := (4, zi_b2 (fun x y => y ≤ x) 17 7)) (zs_icmpge (M := 33) (pc := 4) (zd_eq zk33 (by decide +kernel : decode cX1_run 4 = .ok (.if_icmp .ge 13, 3))) (by decide)) <|
  zcons (a := (7, zi_al 0 8)) (zs_al_n (M := 33) (pc := 7) (zd_eq zk33 (by decide +kernel : decode cX1_run 7 = .ok (.aload_n 0, 1)))) <|
  zcons (a := (8, zi_cv 32 0 1 11 0)) (zs_cv (M := 33) (pc := 8) (M' := 32) (k := 0) (kd := 0) (ci := 1) (q := (RX1, TX1, 4)) (zd_eq zk33 (by decide +kernel : decode cX1_run 8 = .ok (.invokevirtual 56, 3))) zWd32 (zl_m zo33 zy32 zw_531) (zl_i zy32 zw_532) (zl_e zy32 zw_533) (by decide) rfl (by rw [zo32])) <|
  zcons (a := (11, zi_inc 2 1 14)) (zs_inc (M := 33) (pc := 11) (zd_eq zk33 (by decide +kernel : decode cX1_run 11 = .ok (.iinc 2 1, 3))) (by decide) (by decide +kernel) (by decide +kernel)) <|
  zcons (a := (14, zi_go 2)) (zs_goto (M := 33) (pc := 14) (zd_eq zk33 (by decide +kernel : decode cX1_run 14 = .ok (.goto (-12), 3))) (by decide)) <|
  zcons (a := (17, zi_rv)) (zs_rv (M := 33) (pc := 17) (zd_eq zk33 (by decide +kernel : decode cX1_run 17 = .ok (.return_, 1))) rfl) <| znil
theorem zS33 : ∀ pc, zm_Snd 33 pc (zm_lk2 zm_c33 pc) := zlk2 (zcons2 zS33_0 (znil2))
theorem zS34_0 : ∀ q ∈ zm_c34_0, zm_Snd 34 q.1 q.2 :=
  zcons (a := (0, zi_al 0 1)) (zs_al_n (M := 34) (pc := 0) (zd_eq zk34 (by decide +kernel : decode cX1_unruledDays 0 = .ok (.aload_n 0, 1)))) <|
  zcons (a := (1, zi_k (.int (-4)) 3)) (zs_bipush (M := 34) (pc := 1) (zd_eq zk34 (by decide +kernel : decode cX1_unruledDays 1 = .ok (.bipush (-4), 2))) (by decide)) <|
  zcons (a := (3, zi_il 1 4)) (zs_il_n (M := 34) (pc := 3) (zd_eq zk34 (by decide +kernel : decode cX1_unruledDays 3 = .ok (.iload_n 1, 1)))) <|
  zcons (a := (4, zi_cv 35 2 1 7 1)) (zs_cv (M := 34) (pc := 4) (M' := 35) (k := 2) (kd := 1) (ci := 1) (q := (RX1, TX1, 4)) (zd_eq zk34 (by decide +kernel : decode cX1_unruledDays 4 = .ok (.invokevirtual 58, 3))) zWd35 (zl_m zo34 zy35 zw_575) (zl_i zy35 zw_576) (zl_e zy35 zw_577) (by decide) rfl (by rw [zo35])) <|
  zcons (a := (7, zi_ri)) (zs_ri (M := 34) (pc := 7) (zd_eq zk34 (by decide +kernel : decode cX1_unruledDays 7 = .ok (.ireturn, 1))) rfl) <| znil
theorem zS34 : ∀ pc, zm_Snd 34 pc (zm_lk2 zm_c34 pc) := zlk2 (zcons2 zS34_0 (znil2))
theorem zS35_0 : ∀ q ∈ zm_c35_0, zm_Snd 35 q.1 q.2 :=
  zcons (a := (0, zi_k (.int 0) 1)) (zs_iconst (M := 35) (pc := 0) (zd_eq zk35 (by decide +kernel : decode cX1_daysRuledBy 0 = .ok (.iconst 0, 1))) (by decide)) <|
  zcons (a := (1, zi_is 3 2)) (zs_is_n (M := 35) (pc := 1) (zd_eq zk35 (by decide +kernel : decode cX1_daysRuledBy 1 = .ok (.istore_n 3, 1))) (by decide +kernel) (by decide +kernel)) <|
  zcons (a := (2, zi_k (.int 0) 3)) (zs_iconst (M := 35) (pc := 2) (zd_eq zk35 (by decide +kernel : decode cX1_daysRuledBy 2 = .ok (.iconst 0, 1))) (by decide)) <|
  zcons (a := (3, zi_is 4 5)) (zs_is_w (M := 35) (pc := 3) (zd_eq zk35 (by decide +kernel : decode cX1_daysRuledBy 3 = .ok (.istore 4, 2))) (by decide +kernel) (by decide +kernel)) <|
  zcons (a := (5, zi_il 4 7)) (zs_il_w (M := 35) (pc := 5) (zd_eq zk35 (by decide +kernel : decode cX1_daysRuledBy 5 = .ok (.iload 4, 2)))) <|
  zcons (a := (7, zi_il 2 8)) (zs_il_n (M := 35) (pc := 7) (zd_eq zk35 (by decide +kernel : decode cX1_daysRuledBy 7 = .ok (.iload_n 2, 1)))) <|
  zcons (a := (8, zi_b2 (fun x y => y ≤ x) 35 11)) (zs_icmpge (M := 35) (pc := 8) (zd_eq zk35 (by decide +kernel : decode cX1_daysRuledBy 8 = .ok (.if_icmp .ge 27, 3))) (by decide)) <|
  zcons (a := (11, zi_al 0 12)) (zs_al_n (M := 35) (pc := 11) (zd_eq zk35 (by decide +kernel : decode cX1_daysRuledBy 11 = .ok (.aload_n 0, 1)))) <|
  zcons (a := (12, zi_gr 1 0 15)) (zs_gr (M := 35) (pc := 12) (n := 0) (ci := 1) (k := 0) (C := RX1) (T := TX1) (N := 4) (zd_eq zk35 (by decide +kernel : decode cX1_daysRuledBy 12 = .ok (.getfield 12, 3))) rfl (by decide) (by decide) zin_1 (zl_f zo35 zw_121)) <|
  zcons (a := (15, zi_cv 22 0 2 18 1)) (zs_cv (M := 35) (pc := 15) (M' := 22) (k := 0) (kd := 1) (ci := 2) (q := (RX2, TX2, 2)) (zd_eq zk35 (by decide +kernel : decode cX1_daysRuledBy 15 = .ok (.invokevirtual 62, 3))) zWd22 (zl_m zo35 zy22 zw_579) (zl_i zy22 zw_435) (zl_e zy22 zw_436) (by decide) rfl (by rw [zo22])) <|
  zcons (a := (18, zi_il 1 19)) (zs_il_n (M := 35) (pc := 18) (zd_eq zk35 (by decide +kernel : decode cX1_daysRuledBy 18 = .ok (.iload_n 1, 1)))) <|
  zcons (a := (19, zi_b2 (fun x y => ¬ x = y) 25 22)) (zs_icmpne (M := 35) (pc := 19) (zd_eq zk35 (by decide +kernel : decode cX1_daysRuledBy 19 = .ok (.if_icmp .ne 6, 3))) (by decide)) <|
  zcons (a := (22, zi_inc 3 1 25)) (zs_inc (M := 35) (pc := 22) (zd_eq zk35 (by decide +kernel : decode cX1_daysRuledBy 22 = .ok (.iinc 3 1, 3))) (by decide) (by decide +kernel) (by decide +kernel)) <|
  zcons (a := (25, zi_al 0 26)) (zs_al_n (M := 35) (pc := 25) (zd_eq zk35 (by decide +kernel : decode cX1_daysRuledBy 25 = .ok (.aload_n 0, 1)))) <|
  zcons (a := (26, zi_cv 32 0 1 29 0)) (zs_cv (M := 35) (pc := 26) (M' := 32) (k := 0) (kd := 0) (ci := 1) (q := (RX1, TX1, 4)) (zd_eq zk35 (by decide +kernel : decode cX1_daysRuledBy 26 = .ok (.invokevirtual 56, 3))) zWd32 (zl_m zo35 zy32 zw_531) (zl_i zy32 zw_532) (zl_e zy32 zw_533) (by decide) rfl (by rw [zo32])) <|
  zcons (a := (29, zi_inc 4 1 32)) (zs_inc (M := 35) (pc := 29) (zd_eq zk35 (by decide +kernel : decode cX1_daysRuledBy 29 = .ok (.iinc 4 1, 3))) (by decide) (by decide +kernel) (by decide +kernel)) <|
  zcons (a := (32, zi_go 5)) (zs_goto (M := 35) (pc := 32) (zd_eq zk35 (by decide +kernel : decode cX1_daysRuledBy 32 = .ok (.goto (-27), 3))) (by decide)) <|
  zcons (a := (35, zi_il 3 36)) (zs_il_n (M := 35) (pc := 35) (zd_eq zk35 (by decide +kernel : decode cX1_daysRuledBy 35 = .ok (.iload_n 3, 1)))) <|
  zcons (a := (36, zi_ri)) (zs_ri (M := 35) (pc := 36) (zd_eq zk35 (by decide +kernel : decode cX1_daysRuledBy 36 = .ok (.ireturn, 1))) rfl) <| znil
theorem zS35 : ∀ pc, zm_Snd 35 pc (zm_lk2 zm_c35 pc) := zlk2 (zcons2 zS35_0 (znil2))
theorem zS36_0 : ∀ q ∈ zm_c36_0, zm_Snd 36 q.1 q.2 :=
  zcons (a := (0, zi_k (.int 0) 1)) (zs_iconst (M := 36) (pc := 0) (zd_eq zk36 (by decide +kernel : decode cX1_rulers 0 = .ok (.iconst 0, 1))) (by decide)) <|
  zcons (a := (1, zi_is 2 2)) (zs_is_n (M := 36) (pc := 1) (zd_eq zk36 (by decide +kernel : decode cX1_rulers 1 = .ok (.istore_n 2, 1))) (by decide +kernel) (by decide +kernel)) <|
  zcons (a := (2, zi_k (.int 0) 3)) (zs_iconst (M := 36) (pc := 2) (zd_eq zk36 (by decide +kernel : decode cX1_rulers 2 = .ok (.iconst 0, 1))) (by decide)) <|
  zcons (a := (3, zi_is 3 4)) (zs_is_n (M := 36) (pc := 3) (zd_eq zk36 (by decide +kernel : decode cX1_rulers 3 = .ok (.istore_n 3, 1))) (by decide +kernel) (by decide +kernel)) <|
  zcons (a := (4, zi_il 3 5)) (zs_il_n (M := 36) (pc := 4) (zd_eq zk36 (by decide +kernel : decode cX1_rulers 4 = .ok (.iload_n 3, 1)))) <|
  zcons (a := (5, zi_il 1 6)) (zs_il_n (M := 36) (pc := 5) (zd_eq zk36 (by decide +kernel : decode cX1_rulers 5 = .ok (.iload_n 1, 1)))) <|
  zcons (a := (6, zi_b2 (fun x y => y ≤ x) 42 9)) (zs_icmpge (M := 36) (pc := 6) (zd_eq zk36 (by decide +kernel : decode cX1_rulers 6 = .ok (.if_icmp .ge 36, 3))) (by decide)) <|
  zcons (a := (9, zi_al 0 10)) (zs_al_n (M := 36) (pc := 9) (zd_eq zk36 (by decide +kernel : decode cX1_rulers 9 = .ok (.aload_n 0, 1)))) <|
  zcons (a := (10, zi_gr 1 0 13)) (zs_gr (M := 36) (pc := 10) (n := 0) (ci := 1) (k := 0) (C := RX1) (T := TX1) (N := 4) (zd_eq zk36 (by decide +kernel : decode cX1_rulers 10 = .ok (.getfield 12, 3))) rfl (by decide) (by decide) zin_1 (zl_f zo36 zw_121)) <|
  zcons (a := (13, zi_cv 22 0 2 16 1)) (zs_cv (M := 36) (pc := 13) (M' := 22) (k := 0) (kd := 1) (ci := 2) (q := (RX2, TX2, 2)) (zd_eq zk36 (by decide +kernel : decode cX1_rulers 13 = .ok (.invokevirtual 62, 3))) zWd22 (zl_m zo36 zy22 zw_579) (zl_i zy22 zw_435) (zl_e zy22 zw_436) (by decide) rfl (by rw [zo22])) <|
  zcons (a := (16, zi_is 4 18)) (zs_is_w (M := 36) (pc := 16) (zd_eq zk36 (by decide +kernel : decode cX1_rulers 16 = .ok (.istore 4, 2))) (by decide +kernel) (by decide +kernel)) <|
  zcons (a := (18, zi_il 4 20)) (zs_il_w (M := 36) (pc := 18) (zd_eq zk36 (by decide +kernel : decode cX1_rulers 18 = .ok (.iload 4, 2)))) <|
  zcons (a := (20, zi_k (.int (-4)) 22)) (zs_bipush (M := 36) (pc := 20) (zd_eq zk36 (by decide +kernel : decode cX1_rulers 20 = .ok (.bipush (-4), 2))) (by decide)) <|
  zcons (a := (22, zi_b2 (fun x y => x = y) 32 25)) (zs_icmpeq (M := 36) (pc := 22) (zd_eq zk36 (by decide +kernel : decode cX1_rulers 22 = .ok (.if_icmp .eq 10, 3))) (by decide)) <|
  zcons (a := (25, zi_il 2 26)) (zs_il_n (M := 36) (pc := 25) (zd_eq zk36 (by decide +kernel : decode cX1_rulers 25 = .ok (.iload_n 2, 1)))) <|
  zcons (a := (26, zi_k (.int 1) 27)) (zs_iconst (M := 36) (pc := 26) (zd_eq zk36 (by decide +kernel : decode cX1_rulers 26 = .ok (.iconst 1, 1))) (by decide)) <|
  zcons (a := (27, zi_il 4 29)) (zs_il_w (M := 36) (pc := 27) (zd_eq zk36 (by decide +kernel : decode cX1_rulers 27 = .ok (.iload 4, 2)))) <|
  zcons (a := (29, zi_bin (fun x y => x <<< (y &&& 31)) 30)) (zs_ishl (M := 36) (pc := 29) (zd_eq zk36 (by decide +kernel : decode cX1_rulers 29 = .ok (.ishl, 1)))) <|
  zcons (a := (30, zi_bin (· ||| ·) 31)) (zs_ior (M := 36) (pc := 30) (zd_eq zk36 (by decide +kernel : decode cX1_rulers 30 = .ok (.ior, 1)))) <|
  zcons (a := (31, zi_is 2 32)) (zs_is_n (M := 36) (pc := 31) (zd_eq zk36 (by decide +kernel : decode cX1_rulers 31 = .ok (.istore_n 2, 1))) (by decide +kernel) (by decide +kernel)) <|
  zcons (a := (32, zi_al 0 33)) (zs_al_n (M := 36) (pc := 32) (zd_eq zk36 (by decide +kernel : decode cX1_rulers 32 = .ok (.aload_n 0, 1)))) <|
  zcons (a := (33, zi_cv 32 0 1 36 0)) (zs_cv (M := 36) (pc := 33) (M' := 32) (k := 0) (kd := 0) (ci := 1) (q := (RX1, TX1, 4)) (zd_eq zk36 (by decide +kernel : decode cX1_rulers 33 = .ok (.invokevirtual 56, 3))) zWd32 (zl_m zo36 zy32 zw_531) (zl_i zy32 zw_532) (zl_e zy32 zw_533) (by decide) rfl (by rw [zo32])) <|
  zcons (a := (36, zi_inc 3 1 39)) (zs_inc (M := 36) (pc := 36) (zd_eq zk36 (by decide +kernel : decode cX1_rulers 36 = .ok (.iinc 3 1, 3))) (by decide) (by decide +kernel) (by decide +kernel)) <|
  zcons (a := (39, zi_go 4)) (zs_goto (M := 36) (pc := 39) (zd_eq zk36 (by decide +kernel : decode cX1_rulers 39 = .ok (.goto (-35), 3))) (by decide)) <| znil
theorem zS36_1 : ∀ q ∈ zm_c36_1, zm_Snd 36 q.1 q.2 :=
  zcons (a := (42, zi_il 2 43)) (zs_il_n (M := 36) (pc := 42) (zd_eq zk36 (by decide +kernel : decode cX1_rulers 42 = .ok (.iload_n 2, 1)))) <|
  zcons (a := (43, zi_ri)) (zs_ri (M := 36) (pc := 43) (zd_eq zk36 (by decide +kernel : decode cX1_rulers 43 = .ok (.ireturn, 1))) rfl) <| znil
theorem zS36 : ∀ pc, zm_Snd 36 pc (zm_lk2 zm_c36 pc) := zlk2 (zcons2 zS36_0 (zcons2 zS36_1 (znil2)))
theorem zS37_0 : ∀ q ∈ zm_c37_0, zm_Snd 37 q.1 q.2 :=
  zcons (a := (0, zi_k (.int 0) 1)) (zs_iconst (M := 37) (pc := 0) (zd_eq zk37 (by decide +kernel : decode cX1_changesOfRuler 0 = .ok (.iconst 0, 1))) (by decide)) <|
  zcons (a := (1, zi_is 2 2)) (zs_is_n (M := 37) (pc := 1) (zd_eq zk37 (by decide +kernel : decode cX1_changesOfRuler 1 = .ok (.istore_n 2, 1))) (by decide +kernel) (by decide +kernel)) <|
  zcons (a := (2, zi_k (.int 0) 3)) (zs_iconst (M := 37) (pc := 2) (zd_eq zk37 (by decide +kernel : decode cX1_changesOfRuler 2 = .ok (.iconst 0, 1))) (by decide)) <|
  zcons (a := (3, zi_is 3 4)) (zs_is_n (M := 37) (pc := 3) (zd_eq zk37 (by decide +kernel : decode cX1_changesOfRuler 3 = .ok (.istore_n 3, 1))) (by decide +kernel) (by decide +kernel)) <|
  zcons (a := (4, zi_il 3 5)) (zs_il_n (M := 37) (pc := 4) (zd_eq zk37 (by decide +kernel : decode cX1_changesOfRuler 4 = .ok (.iload_n 3, 1)))) <|
  zcons (a := (5, zi_il 1 6)) (zs_il_n (M := 37) (pc := 5) (zd_eq zk37 (by decide +kernel : decode cX1_changesOfRuler 5 = .ok (.iload_n 1, 1)))) <|
  zcons (a := (6, zi_b2 (fun x y => y ≤ x) 43 9)) (zs_icmpge (M := 37) (pc := 6) (zd_eq zk37 (by decide +kernel : decode cX1_changesOfRuler 6 = .ok (.if_icmp .ge 37, 3))) (by decide)) <|
  zcons (a := (9, zi_al 0 10)) (zs_al_n (M := 37) (pc := 9) (zd_eq zk37 (by decide +kernel : decode cX1_changesOfRuler 9 = .ok (.aload_n 0, 1)))) <|
  zcons (a := (10, zi_gr 1 0 13)) (zs_gr (M := 37) (pc := 10) (n := 0) (ci := 1) (k := 0) (C := RX1) (T := TX1) (N := 4) (zd_eq zk37 (by decide +kernel : decode cX1_changesOfRuler 10 = .ok (.getfield 12, 3))) rfl (by decide) (by decide) zin_1 (zl_f zo37 zw_121)) <|
  zcons (a := (13, zi_cv 22 0 2 16 1)) (zs_cv (M := 37) (pc := 13) (M' := 22) (k := 0) (kd := 1) (ci := 2) (q := (RX2, TX2, 2)) (zd_eq zk37 (by decide +kernel : decode cX1_changesOfRuler 13 = .ok (.invokevirtual 62, 3))) zWd22 (zl_m zo37 zy22 zw_579) (zl_i zy22 zw_435) (zl_e zy22 zw_436) (by decide) rfl (by rw [zo22])) <|
  zcons (a := (16, zi_is 4 18)) (zs_is_w (M := 37) (pc := 16) (zd_eq zk37 (by decide +kernel : decode cX1_changesOfRuler 16 = .ok (.istore 4, 2))) (by decide +kernel) (by decide +kernel)) <|
  zcons (a := (18, zi_al 0 19)) (zs_al_n (M := 37) (pc := 18) (zd_eq zk37 (by decide +kernel : decode cX1_changesOfRuler 18 = .ok (.aload_n 0, 1)))) <|
  zcons (a := (19, zi_cv 32 0 1 22 0)) (zs_cv (M := 37) (pc := 19) (M' := 32) (k := 0) (kd := 0) (ci := 1) (q := (RX1, TX1, 4)) (zd_eq zk37 (by decide +kernel : decode cX1_changesOfRuler 19 = .ok (.invokevirtual 56, 3))) zWd32 (zl_m zo37 zy32 zw_531) (zl_i zy32 zw_532) (zl_e zy32 zw_533) (by decide) rfl (by rw [zo32])) <|
  zcons (a := (22, zi_al 0 23)) (zs_al_n (M := 37) (pc := 22) (zd_eq zk37 (by decide +kernel : decode cX1_changesOfRuler 22 = .ok (.aload_n 0, 1)))) <|
  zcons (a := (23, zi_gr 1 0 26)) (zs_gr (M := 37) (pc := 23) (n := 0) (ci := 1) (k := 0) (C := RX1) (T := TX1) (N := 4) (zd_eq zk37 (by decide +kernel : decode cX1_changesOfRuler 23 = .ok (.getfield 12, 3))) rfl (by decide) (by decide) zin_1 (zl_f zo37 zw_121)) <|
  zcons (a := (26, zi_cv 22 0 2 29 1)) (zs_cv (M := 37) (pc := 26) (M' := 22) (k := 0) (kd := 1) (ci := 2) (q := (RX2, TX2, 2)) (zd_eq zk37 (by decide +kernel : decode cX1_changesOfRuler 26 = .ok (.invokevirtual 62, 3))) zWd22 (zl_m zo37 zy22 zw_579) (zl_i zy22 zw_435) (zl_e zy22 zw_436) (by decide) rfl (by rw [zo22])) <|
  zcons (a := (29, zi_il 4 31)) (zs_il_w (M := 37) (pc := 29) (zd_eq zk37 (by decide +kernel : decode cX1_changesOfRuler 29 = .ok (.iload 4, 2)))) <|
  zcons (a := (31, zi_b2 (fun x y => x = y) 37 34)) (zs_icmpeq (M := 37) (pc := 31) (zd_eq zk37 (by decide +kernel : decode cX1_changesOfRuler 31 = .ok (.if_icmp .eq 6, 3))) (by decide)) <|
  zcons (a := (34, zi_inc 2 1 37)) (zs_inc (M := 37) (pc := 34) (zd_eq zk37 (by decide +kernel : decode cX1_changesOfRuler 34 = .ok (.iinc 2 1, 3))) (by decide) (by decide +kernel) (by decide +kernel)) <|
  zcons (a := (37, zi_inc 3 1 40)) (zs_inc (M := 37) (pc := 37) (zd_eq zk37 (by decide +kernel : decode cX1_changesOfRuler 37 = .ok (.iinc 3 1, 3))) (by decide) (by decide +kernel) (by decide +kernel)) <|
  zcons (a := (40, zi_go 4)) (zs_goto (M := 37) (pc := 40) (zd_eq zk37 (by decide +kernel : decode cX1_changesOfRuler 40 = .ok (.goto (-36), 3))) (by decide)) <|
  zcons (a := (43, zi_il 2 44)) (zs_il_n (M := 37) (pc := 43) (zd_eq zk37 (by decide +kernel : decode cX1_changesOfRuler 43 = .ok (.iload_n 2, 1)))) <|
  zcons (a := (44, zi_ri)) (zs_ri (M := 37) (pc := 44) (zd_eq zk37 (by decide +kernel : decode cX1_changesOfRuler 44 = .ok (.ireturn, 1))) rfl) <| znil
theorem zS37 : ∀ pc, zm_Snd 37 pc (zm_lk2 zm_c37 pc) := zlk2 (zcons2 zS37_0 (znil2))
theorem zS38_0 : ∀ q ∈ zm_c38_0, zm_Snd 38 q.1 q.2 :=
  zcons (a := (0, zi_k (.int 0) 1)) (zs_iconst (M := 38) (pc := 0) (zd_eq zk38 (by decide +kernel : decode cX1_foresee 0 = .ok (.iconst 0, 1))) (by decide)) <|
  zcons (a := (1, zi_is 3 2)) (zs_is_n (M := 38) (pc := 1) (zd_eq zk38 (by decide +kernel : decode cX1_foresee 1 = .ok (.istore_n 3, 1))) (by decide +kernel) (by decide +kernel)) <|
  zcons (a := (2, zi_il 3 3)) (zs_il_n (M := 38) (pc := 2) (zd_eq zk38 (by decide +kernel : decode cX1_foresee 2 = .ok (.iload_n 3, 1)))) <|
  zcons (a := (3, zi_il 2 4)) (zs_il_n (M := 38) (pc := 3) (zd_eq zk38 (by decide +kernel : decode cX1_foresee 3 = .ok (.iload_n 2, 1)))) <|
  zcons (a := (4, zi_b2 (fun x y => y < x) 33 7)) (zs_icmpgt (M := 38) (pc := 4) (zd_eq zk38 (by decide +kernel : decode cX1_foresee 4 = .ok (.if_icmp .gt 29, 3))) (by decide)) <|
  zcons (a := (7, zi_il 3 8)) (zs_il_n (M := 38) (pc := 7) (zd_eq zk38 (by decide +kernel : decode cX1_foresee 7 = .ok (.iload_n 3, 1)))) <|
  zcons (a := (8, zi_al 1 9)) (zs_al_n (M := 38) (pc := 8) (zd_eq zk38 (by decide +kernel : decode cX1_foresee 8 = .ok (.aload_n 1, 1)))) <|
  zcons (a := (9, zi_len 10)) (zs_len (M := 38) (pc := 9) (zd_eq zk38 (by decide +kernel : decode cX1_foresee 9 = .ok (.arraylength, 1)))) <|
  zcons (a := (10, zi_b2 (fun x y => y ≤ x) 33 13)) (zs_icmpge (M := 38) (pc := 10) (zd_eq zk38 (by decide +kernel : decode cX1_foresee 10 = .ok (.if_icmp .ge 23, 3))) (by decide)) <|
  zcons (a := (13, zi_al 1 14)) (zs_al_n (M := 38) (pc := 13) (zd_eq zk38 (by decide +kernel : decode cX1_foresee 13 = .ok (.aload_n 1, 1)))) <|
  zcons (a := (14, zi_il 3 15)) (zs_il_n (M := 38) (pc := 14) (zd_eq zk38 (by decide +kernel : decode cX1_foresee 14 = .ok (.iload_n 3, 1)))) <|
  zcons (a := (15, zi_al 0 16)) (zs_al_n (M := 38) (pc := 15) (zd_eq zk38 (by decide +kernel : decode cX1_foresee 15 = .ok (.aload_n 0, 1)))) <|
  zcons (a := (16, zi_gr 1 0 19)) (zs_gr (M := 38) (pc := 16) (n := 0) (ci := 1) (k := 0) (C := RX1) (T := TX1) (N := 4) (zd_eq zk38 (by decide +kernel : decode cX1_foresee 16 = .ok (.getfield 12, 3))) rfl (by decide) (by decide) zin_1 (zl_f zo38 zw_121)) <|
  zcons (a := (19, zi_cv 23 0 2 22 1)) (zs_cv (M := 38) (pc := 19) (M' := 23) (k := 0) (kd := 1) (ci := 2) (q := (RX2, TX2, 2)) (zd_eq zk38 (by decide +kernel : decode cX1_foresee 19 = .ok (.invokevirtual 65, 3))) zWd23 (zl_m zo38 zy23 zw_730) (zl_i zy23 zw_443) (zl_e zy23 zw_444) (by decide) rfl (by rw [zo23])) <|
  zcons (a := (22, zi_ast 0 (fun x => x) 23)) (zs_iast (M := 38) (pc := 22) (zd_eq zk38 (by decide +kernel : decode cX1_foresee 22 = .ok (.iastore, 1)))) <|
  zcons (a := (23, zi_al 0 24)) (zs_al_n (M := 38) (pc := 23) (zd_eq zk38 (by decide +kernel : decode cX1_foresee 23 = .ok (.aload_n 0, 1)))) <|
  zcons (a := (24, zi_cv 32 0 1 27 0)) (zs_cv (M := 38) (pc := 24) (M' := 32) (k := 0) (kd := 0) (ci := 1) (q := (RX1, TX1, 4)) (zd_eq zk38 (by decide +kernel : decode cX1_foresee 24 = .ok (.invokevirtual 56, 3))) zWd32 (zl_m zo38 zy32 zw_531) (zl_i zy32 zw_532) (zl_e zy32 zw_533) (by decide) rfl (by rw [zo32])) <|
  zcons (a := (27, zi_inc 3 1 30)) (zs_inc (M := 38) (pc := 27) (zd_eq zk38 (by decide +kernel : decode cX1_foresee 27 = .ok (.iinc 3 1, 3))) (by decide) (by decide +kernel) (by decide +kernel)) <|
  zcons (a := (30, zi_go 2)) (zs_goto (M := 38) (pc := 30) (zd_eq zk38 (by decide +kernel : decode cX1_foresee 30 = .ok (.goto (-28), 3))) (by decide)) <|
  zcons (a := (33, zi_rv)) (zs_rv (M := 38) (pc := 33) (zd_eq zk38 (by decide +kernel : decode cX1_foresee 33 = .ok (.return_, 1))) rfl) <| znil
theorem zS38 : ∀ pc, zm_Snd 38 pc (zm_lk2 zm_c38 pc) := zlk2 (zcons2 zS38_0 (znil2))
theorem zS39_0 : ∀ q ∈ zm_c39_0, zm_Snd 39 q.1 q.2 :=
  zcons (a := (0, zi_al 0 1)) (zs_al_n (M := 39) (pc := 0) (zd_eq zk39 (by decide +kernel : decode cX4_init 0 = .ok (.aload_n 0, 1)))) <|
  zcons (a := (1, zi_oi 4)) (zs_oi (M := 39) (pc := 1) (zd_eq zk39 (by decide +kernel : decode cX4_init 1 = .ok (.invokespecial 3, 3))) (zl_mo zo39 zw_160) zw_71 zw_72) <|
  zcons (a := (4, zi_al 0 5)) (zs_al_n (M := 39) (pc := 4) (zd_eq zk39 (by decide +kernel : decode cX4_init 4 = .ok (.aload_n 0, 1)))) <|
  zcons (a := (5, zi_k (.int 160) 8)) (zs_sipush (M := 39) (pc := 5) (zd_eq zk39 (by decide +kernel : decode cX4_init 5 = .ok (.sipush 160, 3))) (by decide)) <|
  zcons (a := (8, zi_na 1 10)) (zs_na (M := 39) (pc := 8) (t := 1) (at_ := .byte) (zd_eq zk39 (by decide +kernel : decode cX4_init 8 = .ok (.newarray .byte, 2))) rfl zw_184 rfl (by decide)) <|
  zcons (a := (10, zi_pr 4 0 13)) (zs_pr (M := 39) (pc := 10) (ci := 4) (k := 0) (C := RX4) (T := TX4) (N := 6) (ty0 := tyX4) (zd_eq zk39 (by decide +kernel : decode cX4_init 10 = .ok (.putfield 9, 3))) rfl (by decide) (by decide) zin_4 (zl_f zo39 zw_161) tyX4_ok nmX4 rfl (by rw [zy39]; rfl) (by rw [zo39]; rfl) (tyX4_ok 0 (by decide)) (fun _ => rfl) (fun _ => rfl)) <|
  zcons (a := (13, zi_rv)) (zs_rv (M := 39) (pc := 13) (zd_eq zk39 (by decide +kernel : decode cX4_init 13 = .ok (.return_, 1))) rfl) <| znil
theorem zS39 : ∀ pc, zm_Snd 39 pc (zm_lk2 zm_c39 pc) := zlk2 (zcons2 zS39_0 (znil2))
theorem zS40_0 : ∀ q ∈ zm_c40_0, zm_Snd 40 q.1 q.2 :=
  zcons (a := (0, zi_al 0 1)) (zs_al_n (M := 40) (pc := 0) (zd_eq zk40 (by decide +kernel : decode cX4_append 0 = .ok (.aload_n 0, 1)))) <|
  zcons (a := (1, zi_gi 4 1 4)) (zs_gi (M := 40) (pc := 1) (n := 0) (ci := 4) (k := 1) (C := RX4) (T := TX4) (N := 6) (zd_eq zk40 (by decide +kernel : decode cX4_append 1 = .ok (.getfield 15, 3))) rfl (by decide) (by decide) zin_4 (zl_f zo40 zw_162)) <|
  zcons (a := (4, zi_k (.int 160) 7)) (zs_sipush (M := 40) (pc := 4) (zd_eq zk40 (by decide +kernel : decode cX4_append 4 = .ok (.sipush 160, 3))) (by decide)) <|
  zcons (a := (7, zi_b2 (fun x y => y ≤ x) 31 10)) (zs_icmpge (M := 40) (pc := 7) (zd_eq zk40 (by decide +kernel : decode cX4_append 7 = .ok (.if_icmp .ge 24, 3))) (by decide)) <|
  zcons (a := (10, zi_al 0 11)) (zs_al_n (M := 40) (pc := 10) (zd_eq zk40 (by decide +kernel : decode cX4_append 10 = .ok (.aload_n 0, 1)))) <|
  zcons (a := (11, zi_gr 4 0 14)) (zs_gr (M := 40) (pc := 11) (n := 0) (ci := 4) (k := 0) (C := RX4) (T := TX4) (N := 6) (zd_eq zk40 (by decide +kernel : decode cX4_append 11 = .ok (.getfield 9, 3))) rfl (by decide) (by decide) zin_4 (zl_f zo40 zw_161)) <|
  zcons (a := (14, zi_al 0 15)) (zs_al_n (M := 40) (pc := 14) (zd_eq zk40 (by decide +kernel : decode cX4_append 14 = .ok (.aload_n 0, 1)))) <|
  zcons (a := (15, zi_gi 4 1 18)) (zs_gi (M := 40) (pc := 15) (n := 0) (ci := 4) (k := 1) (C := RX4) (T := TX4) (N := 6) (zd_eq zk40 (by decide +kernel : decode cX4_append 15 = .ok (.getfield 15, 3))) rfl (by decide) (by decide) zin_4 (zl_f zo40 zw_162)) <|
  zcons (a := (18, zi_il 1 19)) (zs_il_n (M := 40) (pc := 18) (zd_eq zk40 (by decide +kernel : decode cX4_append 18 = .ok (.iload_n 1, 1)))) <|
  zcons (a := (19, zi_un (fun x => x.toInt8.toInt32) 20)) (zs_i2b (M := 40) (pc := 19) (zd_eq zk40 (by decide +kernel : decode cX4_append 19 = .ok (.i2b, 1)))) <|
  zcons (a := (20, zi_ast 1 (vp_nar .byte) 21)) (zs_bast (M := 40) (pc := 20) (zd_eq zk40 (by decide +kernel : decode cX4_append 20 = .ok (.bastore, 1)))) <|
  zcons (a := (21, zi_al 0 22)) (zs_al_n (M := 40) (pc := 21) (zd_eq zk40 (by decide +kernel : decode cX4_append 21 = .ok (.aload_n 0, 1)))) <|
  zcons (a := (22, zi_dup 23)) (zs_dup (M := 40) (pc := 22) (zd_eq zk40 (by decide +kernel : decode cX4_append 22 = .ok (.dup, 1)))) <|
  zcons (a := (23, zi_gi 4 1 26)) (zs_gi (M := 40) (pc := 23) (n := 0) (ci := 4) (k := 1) (C := RX4) (T := TX4) (N := 6) (zd_eq zk40 (by decide +kernel : decode cX4_append 23 = .ok (.getfield 15, 3))) rfl (by decide) (by decide) zin_4 (zl_f zo40 zw_162)) <|
  zcons (a := (26, zi_k (.int 1) 27)) (zs_iconst (M := 40) (pc := 26) (zd_eq zk40 (by decide +kernel : decode cX4_append 26 = .ok (.iconst 1, 1))) (by decide)) <|
  zcons (a := (27, zi_bin (· + ·) 28)) (zs_iadd (M := 40) (pc := 27) (zd_eq zk40 (by decide +kernel : decode cX4_append 27 = .ok (.iadd, 1)))) <|
  zcons (a := (28, zi_pf 4 1 31)) (zs_pf (M := 40) (pc := 28) (ci := 4) (k := 1) (C := RX4) (T := TX4) (N := 6) (ty0 := tyX4) (zd_eq zk40 (by decide +kernel : decode cX4_append 28 = .ok (.putfield 15, 3))) rfl (by decide) (by decide) zin_4 (zl_f zo40 zw_162) tyX4_ok nmX4 rfl (tyX4_ok 1 (by decide))) <|
  zcons (a := (31, zi_rv)) (zs_rv (M := 40) (pc := 31) (zd_eq zk40 (by decide +kernel : decode cX4_append 31 = .ok (.return_, 1))) rfl) <| znil
theorem zS40 : ∀ pc, zm_Snd 40 pc (zm_lk2 zm_c40 pc) := zlk2 (zcons2 zS40_0 (znil2))
theorem zS41_0 : ∀ q ∈ zm_c41_0, zm_Snd 41 q.1 q.2 :=
  zcons (a := (0, zi_al 0 1)) (zs_al_n (M := 41) (pc := 0) (zd_eq zk41 (by decide +kernel : decode cX4_rewind 0 = .ok (.aload_n 0, 1)))) <|
  zcons (a := (1, zi_k (.int 0) 2)) (zs_iconst (M := 41) (pc := 1) (zd_eq zk41 (by decide +kernel : decode cX4_rewind 1 = .ok (.iconst 0, 1))) (by decide)) <|
  zcons (a := (2, zi_pf 4 2 5)) (zs_pf (M := 41) (pc := 2) (ci := 4) (k := 2) (C := RX4) (T := TX4) (N := 6) (ty0 := tyX4) (zd_eq zk41 (by decide +kernel : decode cX4_rewind 2 = .ok (.putfield 19, 3))) rfl (by decide) (by decide) zin_4 (zl_f zo41 zw_164) tyX4_ok nmX4 rfl (tyX4_ok 2 (by decide))) <|
  zcons (a := (5, zi_rv)) (zs_rv (M := 41) (pc := 5) (zd_eq zk41 (by decide +kernel : decode cX4_rewind 5 = .ok (.return_, 1))) rfl) <| znil
theorem zS41 : ∀ pc, zm_Snd 41 pc (zm_lk2 zm_c41 pc) := zlk2 (zcons2 zS41_0 (znil2))
theorem zS42_0 : ∀ q ∈ zm_c42_0, zm_Snd 42 q.1 q.2 :=
  zcons (a := (0, zi_al 0 1)) (zs_al_n (M := 42) (pc := 0) (zd_eq zk42 (by decide +kernel : decode cX4_advance 0 = .ok (.aload_n 0, 1)))) <|
  zcons (a := (1, zi_gi 4 2 4)) (zs_gi (M := 42) (pc := 1) (n := 0) (ci := 4) (k := 2) (C := RX4) (T := TX4) (N := 6) (zd_eq zk42 (by decide +kernel : decode cX4_advance 1 = .ok (.getfield 19, 3))) rfl (by decide) (by decide) zin_4 (zl_f zo42 zw_164)) <|
  zcons (a := (4, zi_al 0 5)) (zs_al_n (M := 42) (pc := 4) (zd_eq zk42 (by decide +kernel : decode cX4_advance 4 = .ok (.aload_n 0, 1)))) <|
  zcons (a := (5, zi_gi 4 1 8)) (zs_gi (M := 42) (pc := 5) (n := 0) (ci := 4) (k := 1) (C := RX4) (T := TX4) (N := 6) (zd_eq zk42 (by decide +kernel : decode cX4_advance 5 = .ok (.getfield 15, 3))) rfl (by decide) (by decide) zin_4 (zl_f zo42 zw_162)) <|
  zcons (a := (8, zi_b2 (fun x y => y ≤ x) 38 11)) (zs_icmpge (M := 42) (pc := 8) (zd_eq zk42 (by decide +kernel : decode cX4_advance 8 = .ok (.if_icmp .ge 30, 3))) (by decide)) <|
  zcons (a := (11, zi_al 0 12)) (zs_al_n (M := 42) (pc := 11) (zd_eq zk42 (by decide +kernel : decode cX4_advance 11 = .ok (.aload_n 0, 1)))) <|
  zcons (a := (12, zi_gr 4 0 15)) (zs_gr (M := 42) (pc := 12) (n := 0) (ci := 4) (k := 0) (C := RX4) (T := TX4) (N := 6) (zd_eq zk42 (by decide +kernel : decode cX4_advance 12 = .ok (.getfield 9, 3))) rfl (by decide) (by decide) zin_4 (zl_f zo42 zw_161)) <|
  zcons (a := (15, zi_al 0 16)) (zs_al_n (M := 42) (pc := 15) (zd_eq zk42 (by decide +kernel : decode cX4_advance 15 = .ok (.aload_n 0, 1)))) <|
  zcons (a := (16, zi_gi 4 2 19)) (zs_gi (M := 42) (pc := 16) (n := 0) (ci := 4) (k := 2) (C := RX4) (T := TX4) (N := 6) (zd_eq zk42 (by decide +kernel : decode cX4_advance 16 = .ok (.getfield 19, 3))) rfl (by decide) (by decide) zin_4 (zl_f zo42 zw_164)) <|
  zcons (a := (19, zi_ald 1 20)) (zs_bald (M := 42) (pc := 19) (zd_eq zk42 (by decide +kernel : decode cX4_advance 19 = .ok (.baload, 1)))) <|
  zcons (a := (20, zi_k (.int 32) 22)) (zs_bipush (M := 42) (pc := 20) (zd_eq zk42 (by decide +kernel : decode cX4_advance 20 = .ok (.bipush 32, 2))) (by decide)) <|
  zcons (a := (22, zi_b2 (fun x y => ¬ x = y) 38 25)) (zs_icmpne (M := 42) (pc := 22) (zd_eq zk42 (by decide +kernel : decode cX4_advance 22 = .ok (.if_icmp .ne 16, 3))) (by decide)) <|
  zcons (a := (25, zi_al 0 26)) (zs_al_n (M := 42) (pc := 25) (zd_eq zk42 (by decide +kernel : decode cX4_advance 25 = .ok (.aload_n 0, 1)))) <|
  zcons (a := (26, zi_dup 27)) (zs_dup (M := 42) (pc := 26) (zd_eq zk42 (by decide +kernel : decode cX4_advance 26 = .ok (.dup, 1)))) <|
  zcons (a := (27, zi_gi 4 2 30)) (zs_gi (M := 42) (pc := 27) (n := 0) (ci := 4) (k := 2) (C := RX4) (T := TX4) (N := 6) (zd_eq zk42 (by decide +kernel : decode cX4_advance 27 = .ok (.getfield 19, 3))) rfl (by decide) (by decide) zin_4 (zl_f zo42 zw_164)) <|
  zcons (a := (30, zi_k (.int 1) 31)) (zs_iconst (M := 42) (pc := 30) (zd_eq zk42 (by decide +kernel : decode cX4_advance 30 = .ok (.iconst 1, 1))) (by decide)) <|
  zcons (a := (31, zi_bin (· + ·) 32)) (zs_iadd (M := 42) (pc := 31) (zd_eq zk42 (by decide +kernel : decode cX4_advance 31 = .ok (.iadd, 1)))) <|
  zcons (a := (32, zi_pf 4 2 35)) (zs_pf (M := 42) (pc := 32) (ci := 4) (k := 2) (C := RX4) (T := TX4) (N := 6) (ty0 := tyX4) (zd_eq zk42 (by decide +kernel : decode cX4_advance 32 = .ok (.putfield 19, 3))) rfl (by decide) (by decide) zin_4 (zl_f zo42 zw_164) tyX4_ok nmX4 rfl (tyX4_ok 2 (by decide))) <|
  zcons (a := (35, zi_go 0)) (zs_goto (M := 42) (pc := 35) (zd_eq zk42 (by decide +kernel : decode cX4_advance 35 = .ok (.goto (-35), 3))) (by decide)) <|
  zcons (a := (38, zi_al 0 39)) (zs_al_n (M := 42) (pc := 38) (zd_eq zk42 (by decide +kernel : decode cX4_advance 38 = .ok (.aload_n 0, 1)))) <|
  zcons (a := (39, zi_al 0 40)) (zs_al_n (M := 42) (pc := 39) (zd_eq zk42 (by decide +kernel : decode cX4_advance 39 = .ok (.aload_n 0, 1)))) <|
  zcons (a := (40, zi_gi 4 2 43)) (zs_gi (M := 42) (pc := 40) (n := 0) (ci := 4) (k := 2) (C := RX4) (T := TX4) (N := 6) (zd_eq zk42 (by decide +kernel : decode cX4_advance 40 = .ok (.getfield 19, 3))) rfl (by decide) (by decide) zin_4 (zl_f zo42 zw_164)) <|
  zcons (a := (43, zi_pf 4 4 46)) (zs_pf (M := 42) (pc := 43) (ci := 4) (k := 4) (C := RX4) (T := TX4) (N := 6) (ty0 := tyX4) (zd_eq zk42 (by decide +kernel : decode cX4_advance 43 = .ok (.putfield 22, 3))) rfl (by decide) (by decide) zin_4 (zl_f zo42 zw_167) tyX4_ok nmX4 rfl (tyX4_ok 4 (by decide))) <|
  zcons (a := (46, zi_al 0 47)) (zs_al_n (M := 42) (pc := 46) (zd_eq zk42 (by decide +kernel : decode cX4_advance 46 = .ok (.aload_n 0, 1)))) <| znil
theorem zS42_1 : ∀ q ∈ zm_c42_1, zm_Snd 42 q.1 q.2 :=
  zcons (a := (47, zi_gi 4 2 50)) (zs_gi (M := 42) (pc := 47) (n := 0) (ci := 4) (k := 2) (C := RX4) (T := TX4) (N := 6) (zd_eq zk42 (by decide +kernel : decode cX4_advance 47 = .ok (.getfield 19, 3))) rfl (by decide) (by decide) zin_4 (zl_f zo42 zw_164)) <|
  zcons (a := (50, zi_al 0 51)) (zs_al_n (M := 42) (pc := 50) (zd_eq zk42 (by decide +kernel : decode cX4_advance 50 = .ok (.aload_n 0, 1)))) <|
  zcons (a := (51, zi_gi 4 1 54)) (zs_gi (M := 42) (pc := 51) (n := 0) (ci := 4) (k := 1) (C := RX4) (T := TX4) (N := 6) (zd_eq zk42 (by decide +kernel : decode cX4_advance 51 = .ok (.getfield 15, 3))) rfl (by decide) (by decide) zin_4 (zl_f zo42 zw_162)) <|
  zcons (a := (54, zi_b2 (fun x y => x < y) 63 57)) (zs_icmplt (M := 42) (pc := 54) (zd_eq zk42 (by decide +kernel : decode cX4_advance 54 = .ok (.if_icmp .lt 9, 3))) (by decide)) <|
  zcons (a := (57, zi_al 0 58)) (zs_al_n (M := 42) (pc := 57) (zd_eq zk42 (by decide +kernel : decode cX4_advance 57 = .ok (.aload_n 0, 1)))) <|
  zcons (a := (58, zi_k (.int 4) 59)) (zs_iconst (M := 42) (pc := 58) (zd_eq zk42 (by decide +kernel : decode cX4_advance 58 = .ok (.iconst 4, 1))) (by decide)) <|
  zcons (a := (59, zi_pf 4 3 62)) (zs_pf (M := 42) (pc := 59) (ci := 4) (k := 3) (C := RX4) (T := TX4) (N := 6) (ty0 := tyX4) (zd_eq zk42 (by decide +kernel : decode cX4_advance 59 = .ok (.putfield 25, 3))) rfl (by decide) (by decide) zin_4 (zl_f zo42 zw_166) tyX4_ok nmX4 rfl (tyX4_ok 3 (by decide))) <|
  zcons (a := (62, zi_rv)) (zs_rv (M := 42) (pc := 62) (zd_eq zk42 (by decide +kernel : decode cX4_advance 62 = .ok (.return_, 1))) rfl) <|
  zcons (a := (63, zi_al 0 64)) (zs_al_n (M := 42) (pc := 63) (zd_eq zk42 (by decide +kernel : decode cX4_advance 63 = .ok (.aload_n 0, 1)))) <|
  zcons (a := (64, zi_al 0 65)) (zs_al_n (M := 42) (pc := 64) (zd_eq zk42 (by decide +kernel : decode cX4_advance 64 = .ok (.aload_n 0, 1)))) <|
  zcons (a := (65, zi_gr 4 0 68)) (zs_gr (M := 42) (pc := 65) (n := 0) (ci := 4) (k := 0) (C := RX4) (T := TX4) (N := 6) (zd_eq zk42 (by decide +kernel : decode cX4_advance 65 = .ok (.getfield 9, 3))) rfl (by decide) (by decide) zin_4 (zl_f zo42 zw_161)) <|
  zcons (a := (68, zi_al 0 69)) (zs_al_n (M := 42) (pc := 68) (zd_eq zk42 (by decide +kernel : decode cX4_advance 68 = .ok (.aload_n 0, 1)))) <|
  zcons (a := (69, zi_gi 4 2 72)) (zs_gi (M := 42) (pc := 69) (n := 0) (ci := 4) (k := 2) (C := RX4) (T := TX4) (N := 6) (zd_eq zk42 (by decide +kernel : decode cX4_advance 69 = .ok (.getfield 19, 3))) rfl (by decide) (by decide) zin_4 (zl_f zo42 zw_164)) <|
  zcons (a := (72, zi_ald 1 73)) (zs_bald (M := 42) (pc := 72) (zd_eq zk42 (by decide +kernel : decode cX4_advance 72 = .ok (.baload, 1)))) <|
  zcons (a := (73, zi_cs 45 1 76 1)) (zs_cs (M := 42) (pc := 73) (M' := 45) (k := 1) (kd := 1) (zd_eq zk42 (by decide +kernel : decode cX4_advance 73 = .ok (.invokestatic 28, 3))) zWd45 (zl_m zo42 zy45 zw_311) (zl_s zy45 zw_312)) <|
  zcons (a := (76, zi_pf 4 3 79)) (zs_pf (M := 42) (pc := 76) (ci := 4) (k := 3) (C := RX4) (T := TX4) (N := 6) (ty0 := tyX4) (zd_eq zk42 (by decide +kernel : decode cX4_advance 76 = .ok (.putfield 25, 3))) rfl (by decide) (by decide) zin_4 (zl_f zo42 zw_166) tyX4_ok nmX4 rfl (tyX4_ok 3 (by decide))) <|
  zcons (a := (79, zi_al 0 80)) (zs_al_n (M := 42) (pc := 79) (zd_eq zk42 (by decide +kernel : decode cX4_advance 79 = .ok (.aload_n 0, 1)))) <|
  zcons (a := (80, zi_dup 81)) (zs_dup (M := 42) (pc := 80) (zd_eq zk42 (by decide +kernel : decode cX4_advance 80 = .ok (.dup, 1)))) <|
  zcons (a := (81, zi_gi 4 2 84)) (zs_gi (M := 42) (pc := 81) (n := 0) (ci := 4) (k := 2) (C := RX4) (T := TX4) (N := 6) (zd_eq zk42 (by decide +kernel : decode cX4_advance 81 = .ok (.getfield 19, 3))) rfl (by decide) (by decide) zin_4 (zl_f zo42 zw_164)) <|
  zcons (a := (84, zi_k (.int 1) 85)) (zs_iconst (M := 42) (pc := 84) (zd_eq zk42 (by decide +kernel : decode cX4_advance 84 = .ok (.iconst 1, 1))) (by decide)) <|
  zcons (a := (85, zi_bin (· + ·) 86)) (zs_iadd (M := 42) (pc := 85) (zd_eq zk42 (by decide +kernel : decode cX4_advance 85 = .ok (.iadd, 1)))) <|
  zcons (a := (86, zi_pf 4 2 89)) (zs_pf (M := 42) (pc := 86) (ci := 4) (k := 2) (C := RX4) (T := TX4) (N := 6) (ty0 := tyX4) (zd_eq zk42 (by decide +kernel : decode cX4_advance 86 = .ok (.putfield 19, 3))) rfl (by decide) (by decide) zin_4 (zl_f zo42 zw_164) tyX4_ok nmX4 rfl (tyX4_ok 2 (by decide))) <|
  zcons (a := (89, zi_al 0 90)) (zs_al_n (M := 42) (pc := 89) (zd_eq zk42 (by decide +kernel : decode cX4_advance 89 = .ok (.aload_n 0, 1)))) <|
  zcons (a := (90, zi_gi 4 2 93)) (zs_gi (M := 42) (pc := 90) (n := 0) (ci := 4) (k := 2) (C := RX4) (T := TX4) (N := 6) (zd_eq zk42 (by decide +kernel : decode cX4_advance 90 = .ok (.getfield 19, 3))) rfl (by decide) (by decide) zin_4 (zl_f zo42 zw_164)) <| znil
theorem zS42_2 : ∀ q ∈ zm_c42_2, zm_Snd 42 q.1 q.2 :=
  zcons (a := (93, zi_al 0 94)) (zs_al_n (M := 42) (pc := 93) (zd_eq zk42 (by decide +kernel : decode cX4_advance 93 = .ok (.aload_n 0, 1)))) <|
  zcons (a := (94, zi_gi 4 1 97)) (zs_gi (M := 42) (pc := 94) (n := 0) (ci := 4) (k := 1) (C := RX4) (T := TX4) (N := 6) (zd_eq zk42 (by decide +kernel : decode cX4_advance 94 = .ok (.getfield 15, 3))) rfl (by decide) (by decide) zin_4 (zl_f zo42 zw_162)) <|
  zcons (a := (97, zi_b2 (fun x y => y ≤ x) 140 100)) (zs_icmpge (M := 42) (pc := 97) (zd_eq zk42 (by decide +kernel : decode cX4_advance 97 = .ok (.if_icmp .ge 43, 3))) (by decide)) <|
  zcons (a := (100, zi_al 0 101)) (zs_al_n (M := 42) (pc := 100) (zd_eq zk42 (by decide +kernel : decode cX4_advance 100 = .ok (.aload_n 0, 1)))) <|
  zcons (a := (101, zi_gi 4 3 104)) (zs_gi (M := 42) (pc := 101) (n := 0) (ci := 4) (k := 3) (C := RX4) (T := TX4) (N := 6) (zd_eq zk42 (by decide +kernel : decode cX4_advance 101 = .ok (.getfield 25, 3))) rfl (by decide) (by decide) zin_4 (zl_f zo42 zw_166)) <|
  zcons (a := (104, zi_k (.int 2) 105)) (zs_iconst (M := 42) (pc := 104) (zd_eq zk42 (by decide +kernel : decode cX4_advance 104 = .ok (.iconst 2, 1))) (by decide)) <|
  zcons (a := (105, zi_b2 (fun x y => y ≤ x) 140 108)) (zs_icmpge (M := 42) (pc := 105) (zd_eq zk42 (by decide +kernel : decode cX4_advance 105 = .ok (.if_icmp .ge 35, 3))) (by decide)) <|
  zcons (a := (108, zi_al 0 109)) (zs_al_n (M := 42) (pc := 108) (zd_eq zk42 (by decide +kernel : decode cX4_advance 108 = .ok (.aload_n 0, 1)))) <|
  zcons (a := (109, zi_gr 4 0 112)) (zs_gr (M := 42) (pc := 109) (n := 0) (ci := 4) (k := 0) (C := RX4) (T := TX4) (N := 6) (zd_eq zk42 (by decide +kernel : decode cX4_advance 109 = .ok (.getfield 9, 3))) rfl (by decide) (by decide) zin_4 (zl_f zo42 zw_161)) <|
  zcons (a := (112, zi_al 0 113)) (zs_al_n (M := 42) (pc := 112) (zd_eq zk42 (by decide +kernel : decode cX4_advance 112 = .ok (.aload_n 0, 1)))) <|
  zcons (a := (113, zi_gi 4 2 116)) (zs_gi (M := 42) (pc := 113) (n := 0) (ci := 4) (k := 2) (C := RX4) (T := TX4) (N := 6) (zd_eq zk42 (by decide +kernel : decode cX4_advance 113 = .ok (.getfield 19, 3))) rfl (by decide) (by decide) zin_4 (zl_f zo42 zw_164)) <|
  zcons (a := (116, zi_ald 1 117)) (zs_bald (M := 42) (pc := 116) (zd_eq zk42 (by decide +kernel : decode cX4_advance 116 = .ok (.baload, 1)))) <|
  zcons (a := (117, zi_cs 45 1 120 1)) (zs_cs (M := 42) (pc := 117) (M' := 45) (k := 1) (kd := 1) (zd_eq zk42 (by decide +kernel : decode cX4_advance 117 = .ok (.invokestatic 28, 3))) zWd45 (zl_m zo42 zy45 zw_311) (zl_s zy45 zw_312)) <|
  zcons (a := (120, zi_al 0 121)) (zs_al_n (M := 42) (pc := 120) (zd_eq zk42 (by decide +kernel : decode cX4_advance 120 = .ok (.aload_n 0, 1)))) <|
  zcons (a := (121, zi_gi 4 3 124)) (zs_gi (M := 42) (pc := 121) (n := 0) (ci := 4) (k := 3) (C := RX4) (T := TX4) (N := 6) (zd_eq zk42 (by decide +kernel : decode cX4_advance 121 = .ok (.getfield 25, 3))) rfl (by decide) (by decide) zin_4 (zl_f zo42 zw_166)) <|
  zcons (a := (124, zi_b2 (fun x y => ¬ x = y) 140 127)) (zs_icmpne (M := 42) (pc := 124) (zd_eq zk42 (by decide +kernel : decode cX4_advance 124 = .ok (.if_icmp .ne 16, 3))) (by decide)) <|
  zcons (a := (127, zi_al 0 128)) (zs_al_n (M := 42) (pc := 127) (zd_eq zk42 (by decide +kernel : decode cX4_advance 127 = .ok (.aload_n 0, 1)))) <|
  zcons (a := (128, zi_dup 129)) (zs_dup (M := 42) (pc := 128) (zd_eq zk42 (by decide +kernel : decode cX4_advance 128 = .ok (.dup, 1)))) <|
  zcons (a := (129, zi_gi 4 2 132)) (zs_gi (M := 42) (pc := 129) (n := 0) (ci := 4) (k := 2) (C := RX4) (T := TX4) (N := 6) (zd_eq zk42 (by decide +kernel : decode cX4_advance 129 = .ok (.getfield 19, 3))) rfl (by decide) (by decide) zin_4 (zl_f zo42 zw_164)) <|
  zcons (a := (132, zi_k (.int 1) 133)) (zs_iconst (M := 42) (pc := 132) (zd_eq zk42 (by decide +kernel : decode cX4_advance 132 = .ok (.iconst 1, 1))) (by decide)) <|
  zcons (a := (133, zi_bin (· + ·) 134)) (zs_iadd (M := 42) (pc := 133) (zd_eq zk42 (by decide +kernel : decode cX4_advance 133 = .ok (.iadd, 1)))) <|
  zcons (a := (134, zi_pf 4 2 137)) (zs_pf (M := 42) (pc := 134) (ci := 4) (k := 2) (C := RX4) (T := TX4) (N := 6) (ty0 := tyX4) (zd_eq zk42 (by decide +kernel : decode cX4_advance 134 = .ok (.putfield 19, 3))) rfl (by decide) (by decide) zin_4 (zl_f zo42 zw_164) tyX4_ok nmX4 rfl (tyX4_ok 2 (by decide))) <|
  zcons (a := (137, zi_go 89)) (zs_goto (M := 42) (pc := 137) (zd_eq zk42 (by decide +kernel : decode cX4_advance 137 = .ok (.goto (-48), 3))) (by decide)) <|
  zcons (a := (140, zi_al 0 141)) (zs_al_n (M := 42) (pc := 140) (zd_eq zk42 (by decide +kernel : decode cX4_advance 140 = .ok (.aload_n 0, 1)))) <| znil
theorem zS42_3 : ∀ q ∈ zm_c42_3, zm_Snd 42 q.1 q.2 :=
  zcons (a := (141, zi_gi 4 3 144)) (zs_gi (M := 42) (pc := 141) (n := 0) (ci := 4) (k := 3) (C := RX4) (T := TX4) (N := 6) (zd_eq zk42 (by decide +kernel : decode cX4_advance 141 = .ok (.getfield 25, 3))) rfl (by decide) (by decide) zin_4 (zl_f zo42 zw_166)) <|
  zcons (a := (144, zi_k (.int 1) 145)) (zs_iconst (M := 42) (pc := 144) (zd_eq zk42 (by decide +kernel : decode cX4_advance 144 = .ok (.iconst 1, 1))) (by decide)) <|
  zcons (a := (145, zi_b2 (fun x y => ¬ x = y) 152 148)) (zs_icmpne (M := 42) (pc := 145) (zd_eq zk42 (by decide +kernel : decode cX4_advance 145 = .ok (.if_icmp .ne 7, 3))) (by decide)) <|
  zcons (a := (148, zi_al 0 149)) (zs_al_n (M := 42) (pc := 148) (zd_eq zk42 (by decide +kernel : decode cX4_advance 148 = .ok (.aload_n 0, 1)))) <|
  zcons (a := (149, zi_cv 44 0 4 152 0)) (zs_cv (M := 42) (pc := 149) (M' := 44) (k := 0) (kd := 0) (ci := 4) (q := (RX4, TX4, 6)) (zd_eq zk42 (by decide +kernel : decode cX4_advance 149 = .ok (.invokevirtual 32, 3))) zWd44 (zl_m zo42 zy44 zw_314) (zl_i zy44 zw_316) (zl_e zy44 zw_0) (by decide) rfl (by rw [zo44])) <|
  zcons (a := (152, zi_rv)) (zs_rv (M := 42) (pc := 152) (zd_eq zk42 (by decide +kernel : decode cX4_advance 152 = .ok (.return_, 1))) rfl) <| znil
theorem zS42 : ∀ pc, zm_Snd 42 pc (zm_lk2 zm_c42 pc) := zlk2 (zcons2 zS42_0 (zcons2 zS42_1 (zcons2 zS42_2 (zcons2 zS42_3 (znil2)))))
theorem zS43_0 : ∀ q ∈ zm_c43_0, zm_Snd 43 q.1 q.2 :=
  zcons (a := (0, zi_al 0 1)) (zs_al_n (M := 43) (pc := 0) (zd_eq zk43 (by decide +kernel : decode cX4_isName 0 = .ok (.aload_n 0, 1)))) <|
  zcons (a := (1, zi_gi 4 3 4)) (zs_gi (M := 43) (pc := 1) (n := 0) (ci := 4) (k := 3) (C := RX4) (T := TX4) (N := 6) (zd_eq zk43 (by decide +kernel : decode cX4_isName 1 = .ok (.getfield 25, 3))) rfl (by decide) (by decide) zin_4 (zl_f zo43 zw_166)) <|
  zcons (a := (4, zi_b1 (fun x => ¬ x = 0) 23 7)) (zs_ifne (M := 43) (pc := 4) (zd_eq zk43 (by decide +kernel : decode cX4_isName 4 = .ok (.ifCond .ne 19, 3))) (by decide)) <|
  zcons (a := (7, zi_al 0 8)) (zs_al_n (M := 43) (pc := 7) (zd_eq zk43 (by decide +kernel : decode cX4_isName 7 = .ok (.aload_n 0, 1)))) <|
  zcons (a := (8, zi_gi 4 2 11)) (zs_gi (M := 43) (pc := 8) (n := 0) (ci := 4) (k := 2) (C := RX4) (T := TX4) (N := 6) (zd_eq zk43 (by decide +kernel : decode cX4_isName 8 = .ok (.getfield 19, 3))) rfl (by decide) (by decide) zin_4 (zl_f zo43 zw_164)) <|
  zcons (a := (11, zi_al 0 12)) (zs_al_n (M := 43) (pc := 11) (zd_eq zk43 (by decide +kernel : decode cX4_isName 11 = .ok (.aload_n 0, 1)))) <|
  zcons (a := (12, zi_gi 4 4 15)) (zs_gi (M := 43) (pc := 12) (n := 0) (ci := 4) (k := 4) (C := RX4) (T := TX4) (N := 6) (zd_eq zk43 (by decide +kernel : decode cX4_isName 12 = .ok (.getfield 22, 3))) rfl (by decide) (by decide) zin_4 (zl_f zo43 zw_167)) <|
  zcons (a := (15, zi_bin (· - ·) 16)) (zs_isub (M := 43) (pc := 15) (zd_eq zk43 (by decide +kernel : decode cX4_isName 15 = .ok (.isub, 1)))) <|
  zcons (a := (16, zi_al 1 17)) (zs_al_n (M := 43) (pc := 16) (zd_eq zk43 (by decide +kernel : decode cX4_isName 16 = .ok (.aload_n 1, 1)))) <|
  zcons (a := (17, zi_cw 7 0 20 1)) (zs_cw (M := 43) (pc := 17) (M' := 7) (k := 0) (kd := 1) (zd_eq zk43 (by decide +kernel : decode cX4_isName 17 = .ok (.invokevirtual 35, 3))) zWd7 (zl_m zo43 zy7 zw_331) (zl_i zy7 zw_332) (zl_e zy7 zw_333) zo7) <|
  zcons (a := (20, zi_b2 (fun x y => x = y) 25 23)) (zs_icmpeq (M := 43) (pc := 20) (zd_eq zk43 (by decide +kernel : decode cX4_isName 20 = .ok (.if_icmp .eq 5, 3))) (by decide)) <|
  zcons (a := (23, zi_k (.int 0) 24)) (zs_iconst (M := 43) (pc := 23) (zd_eq zk43 (by decide +kernel : decode cX4_isName 23 = .ok (.iconst 0, 1))) (by decide)) <|
  zcons (a := (24, zi_rz)) (zs_rz (M := 43) (pc := 24) (zd_eq zk43 (by decide +kernel : decode cX4_isName 24 = .ok (.ireturn, 1))) rfl) <|
  zcons (a := (25, zi_k (.int 0) 26)) (zs_iconst (M := 43) (pc := 25) (zd_eq zk43 (by decide +kernel : decode cX4_isName 25 = .ok (.iconst 0, 1))) (by decide)) <|
  zcons (a := (26, zi_is 2 27)) (zs_is_n (M := 43) (pc := 26) (zd_eq zk43 (by decide +kernel : decode cX4_isName 26 = .ok (.istore_n 2, 1))) (by decide +kernel) (by decide +kernel)) <|
  zcons (a := (27, zi_il 2 28)) (zs_il_n (M := 43) (pc := 27) (zd_eq zk43 (by decide +kernel : decode cX4_isName 27 = .ok (.iload_n 2, 1)))) <|
  zcons (a := (28, zi_al 1 29)) (zs_al_n (M := 43) (pc := 28) (zd_eq zk43 (by decide +kernel : decode cX4_isName 28 = .ok (.aload_n 1, 1)))) <|
  zcons (a := (29, zi_cw 7 0 32 1)) (zs_cw (M := 43) (pc := 29) (M' := 7) (k := 0) (kd := 1) (zd_eq zk43 (by decide +kernel : decode cX4_isName 29 = .ok (.invokevirtual 35, 3))) zWd7 (zl_m zo43 zy7 zw_331) (zl_i zy7 zw_332) (zl_e zy7 zw_333) zo7) <|
  zcons (a := (32, zi_b2 (fun x y => y ≤ x) 62 35)) (zs_icmpge (M := 43) (pc := 32) (zd_eq zk43 (by decide +kernel : decode cX4_isName 32 = .ok (.if_icmp .ge 30, 3))) (by decide)) <|
  zcons (a := (35, zi_al 0 36)) (zs_al_n (M := 43) (pc := 35) (zd_eq zk43 (by decide +kernel : decode cX4_isName 35 = .ok (.aload_n 0, 1)))) <|
  zcons (a := (36, zi_gr 4 0 39)) (zs_gr (M := 43) (pc := 36) (n := 0) (ci := 4) (k := 0) (C := RX4) (T := TX4) (N := 6) (zd_eq zk43 (by decide +kernel : decode cX4_isName 36 = .ok (.getfield 9, 3))) rfl (by decide) (by decide) zin_4 (zl_f zo43 zw_161)) <|
  zcons (a := (39, zi_al 0 40)) (zs_al_n (M := 43) (pc := 39) (zd_eq zk43 (by decide +kernel : decode cX4_isName 39 = .ok (.aload_n 0, 1)))) <|
  zcons (a := (40, zi_gi 4 4 43)) (zs_gi (M := 43) (pc := 40) (n := 0) (ci := 4) (k := 4) (C := RX4) (T := TX4) (N := 6) (zd_eq zk43 (by decide +kernel : decode cX4_isName 40 = .ok (.getfield 22, 3))) rfl (by decide) (by decide) zin_4 (zl_f zo43 zw_167)) <|
  zcons (a := (43, zi_il 2 44)) (zs_il_n (M := 43) (pc := 43) (zd_eq zk43 (by decide +kernel : decode cX4_isName 43 = .ok (.iload_n 2, 1)))) <| znil
theorem zS43_1 : ∀ q ∈ zm_c43_1, zm_Snd 43 q.1 q.2 :=
  zcons (a := (44, zi_bin (· + ·) 45)) (zs_iadd (M := 43) (pc := 44) (zd_eq zk43 (by decide +kernel : decode cX4_isName 44 = .ok (.iadd, 1)))) <|
  zcons (a := (45, zi_ald 1 46)) (zs_bald (M := 43) (pc := 45) (zd_eq zk43 (by decide +kernel : decode cX4_isName 45 = .ok (.baload, 1)))) <|
  zcons (a := (46, zi_al 1 47)) (zs_al_n (M := 43) (pc := 46) (zd_eq zk43 (by decide +kernel : decode cX4_isName 46 = .ok (.aload_n 1, 1)))) <|
  zcons (a := (47, zi_il 2 48)) (zs_il_n (M := 43) (pc := 47) (zd_eq zk43 (by decide +kernel : decode cX4_isName 47 = .ok (.iload_n 2, 1)))) <|
  zcons (a := (48, zi_cw 3 1 51 1)) (zs_cw (M := 43) (pc := 48) (M' := 3) (k := 1) (kd := 1) (zd_eq zk43 (by decide +kernel : decode cX4_isName 48 = .ok (.invokevirtual 40, 3))) zWd3 (zl_m zo43 zy3 zw_341) (zl_i zy3 zw_342) (zl_e zy3 zw_343) zo3) <|
  zcons (a := (51, zi_b2 (fun x y => x = y) 56 54)) (zs_icmpeq (M := 43) (pc := 51) (zd_eq zk43 (by decide +kernel : decode cX4_isName 51 = .ok (.if_icmp .eq 5, 3))) (by decide)) <|
  zcons (a := (54, zi_k (.int 0) 55)) (zs_iconst (M := 43) (pc := 54) (zd_eq zk43 (by decide +kernel : decode cX4_isName 54 = .ok (.iconst 0, 1))) (by decide)) <|
  zcons (a := (55, zi_rz)) (zs_rz (M := 43) (pc := 55) (zd_eq zk43 (by decide +kernel : decode cX4_isName 55 = .ok (.ireturn, 1))) rfl) <|
  zcons (a := (56, zi_inc 2 1 59)) (zs_inc (M := 43) (pc := 56) (zd_eq zk43 (by decide +kernel : decode cX4_isName 56 = .ok (.iinc 2 1, 3))) (by decide) (by decide +kernel) (by decide +kernel)) <|
  zcons (a := (59, zi_go 27)) (zs_goto (M := 43) (pc := 59) (zd_eq zk43 (by decide +kernel : decode cX4_isName 59 = .ok (.goto (-32), 3))) (by decide)) <|
  zcons (a := (62, zi_k (.int 1) 63)) (zs_iconst (M := 43) (pc := 62) (zd_eq zk43 (by decide +kernel : decode cX4_isName 62 = .ok (.iconst 1, 1))) (by decide)) <|
  zcons (a := (63, zi_rz)) (zs_rz (M := 43) (pc := 63) (zd_eq zk43 (by decide +kernel : decode cX4_isName 63 = .ok (.ireturn, 1))) rfl) <| znil
theorem zS43 : ∀ pc, zm_Snd 43 pc (zm_lk2 zm_c43 pc) := zlk2 (zcons2 zS43_0 (zcons2 zS43_1 (znil2)))
theorem zS44_0 : ∀ q ∈ zm_c44_0, zm_Snd 44 q.1 q.2 :=
  zcons (a := (0, zi_al 0 1)) (zs_al_n (M := 44) (pc := 0) (zd_eq zk44 (by decide +kernel : decode cX4_weigh 0 = .ok (.aload_n 0, 1)))) <|
  zcons (a := (1, zi_gi 4 2 4)) (zs_gi (M := 44) (pc := 1) (n := 0) (ci := 4) (k := 2) (C := RX4) (T := TX4) (N := 6) (zd_eq zk44 (by decide +kernel : decode cX4_weigh 1 = .ok (.getfield 19, 3))) rfl (by decide) (by decide) zin_4 (zl_f zo44 zw_164)) <|
  zcons (a := (4, zi_al 0 5)) (zs_al_n (M := 44) (pc := 4) (zd_eq zk44 (by decide +kernel : decode cX4_weigh 4 = .ok (.aload_n 0, 1)))) <|
  zcons (a := (5, zi_gi 4 4 8)) (zs_gi (M := 44) (pc := 5) (n := 0) (ci := 4) (k := 4) (C := RX4) (T := TX4) (N := 6) (zd_eq zk44 (by decide +kernel : decode cX4_weigh 5 = .ok (.getfield 22, 3))) rfl (by decide) (by decide) zin_4 (zl_f zo44 zw_167)) <|
  zcons (a := (8, zi_bin (· - ·) 9)) (zs_isub (M := 44) (pc := 8) (zd_eq zk44 (by decide +kernel : decode cX4_weigh 8 = .ok (.isub, 1)))) <|
  zcons (a := (9, zi_k (.int 2) 10)) (zs_iconst (M := 44) (pc := 9) (zd_eq zk44 (by decide +kernel : decode cX4_weigh 9 = .ok (.iconst 2, 1))) (by decide)) <|
  zcons (a := (10, zi_b2 (fun x y => x ≤ y) 19 13)) (zs_icmple (M := 44) (pc := 10) (zd_eq zk44 (by decide +kernel : decode cX4_weigh 10 = .ok (.if_icmp .le 9, 3))) (by decide)) <|
  zcons (a := (13, zi_al 0 14)) (zs_al_n (M := 44) (pc := 13) (zd_eq zk44 (by decide +kernel : decode cX4_weigh 13 = .ok (.aload_n 0, 1)))) <|
  zcons (a := (14, zi_k (.int 3) 15)) (zs_iconst (M := 44) (pc := 14) (zd_eq zk44 (by decide +kernel : decode cX4_weigh 14 = .ok (.iconst 3, 1))) (by decide)) <|
  zcons (a := (15, zi_pf 4 3 18)) (zs_pf (M := 44) (pc := 15) (ci := 4) (k := 3) (C := RX4) (T := TX4) (N := 6) (ty0 := tyX4) (zd_eq zk44 (by decide +kernel : decode cX4_weigh 15 = .ok (.putfield 25, 3))) rfl (by decide) (by decide) zin_4 (zl_f zo44 zw_166) tyX4_ok nmX4 rfl (tyX4_ok 3 (by decide))) <|
  zcons (a := (18, zi_rv)) (zs_rv (M := 44) (pc := 18) (zd_eq zk44 (by decide +kernel : decode cX4_weigh 18 = .ok (.return_, 1))) rfl) <|
  zcons (a := (19, zi_al 0 20)) (zs_al_n (M := 44) (pc := 19) (zd_eq zk44 (by decide +kernel : decode cX4_weigh 19 = .ok (.aload_n 0, 1)))) <|
  zcons (a := (20, zi_k (.int 0) 21)) (zs_iconst (M := 44) (pc := 20) (zd_eq zk44 (by decide +kernel : decode cX4_weigh 20 = .ok (.iconst 0, 1))) (by decide)) <|
  zcons (a := (21, zi_pf 4 5 24)) (zs_pf (M := 44) (pc := 21) (ci := 4) (k := 5) (C := RX4) (T := TX4) (N := 6) (ty0 := tyX4) (zd_eq zk44 (by decide +kernel : decode cX4_weigh 21 = .ok (.putfield 44, 3))) rfl (by decide) (by decide) zin_4 (zl_f zo44 zw_170) tyX4_ok nmX4 rfl (tyX4_ok 5 (by decide))) <|
  zcons (a := (24, zi_al 0 25)) (zs_al_n (M := 44) (pc := 24) (zd_eq zk44 (by decide +kernel : decode cX4_weigh 24 = .ok (.aload_n 0, 1)))) <|
  zcons (a := (25, zi_gi 4 4 28)) (zs_gi (M := 44) (pc := 25) (n := 0) (ci := 4) (k := 4) (C := RX4) (T := TX4) (N := 6) (zd_eq zk44 (by decide +kernel : decode cX4_weigh 25 = .ok (.getfield 22, 3))) rfl (by decide) (by decide) zin_4 (zl_f zo44 zw_167)) <|
  zcons (a := (28, zi_is 1 29)) (zs_is_n (M := 44) (pc := 28) (zd_eq zk44 (by decide +kernel : decode cX4_weigh 28 = .ok (.istore_n 1, 1))) (by decide +kernel) (by decide +kernel)) <|
  zcons (a := (29, zi_il 1 30)) (zs_il_n (M := 44) (pc := 29) (zd_eq zk44 (by decide +kernel : decode cX4_weigh 29 = .ok (.iload_n 1, 1)))) <|
  zcons (a := (30, zi_al 0 31)) (zs_al_n (M := 44) (pc := 30) (zd_eq zk44 (by decide +kernel : decode cX4_weigh 30 = .ok (.aload_n 0, 1)))) <|
  zcons (a := (31, zi_gi 4 2 34)) (zs_gi (M := 44) (pc := 31) (n := 0) (ci := 4) (k := 2) (C := RX4) (T := TX4) (N := 6) (zd_eq zk44 (by decide +kernel : decode cX4_weigh 31 = .ok (.getfield 19, 3))) rfl (by decide) (by decide) zin_4 (zl_f zo44 zw_164)) <|
  zcons (a := (34, zi_b2 (fun x y => y ≤ x) 64 37)) (zs_icmpge (M := 44) (pc := 34) (zd_eq zk44 (by decide +kernel : decode cX4_weigh 34 = .ok (.if_icmp .ge 30, 3))) (by decide)) <|
  zcons (a := (37, zi_al 0 38)) (zs_al_n (M := 44) (pc := 37) (zd_eq zk44 (by decide +kernel : decode cX4_weigh 37 = .ok (.aload_n 0, 1)))) <|
  zcons (a := (38, zi_k (.int 10) 40)) (zs_bipush (M := 44) (pc := 38) (zd_eq zk44 (by decide +kernel : decode cX4_weigh 38 = .ok (.bipush 10, 2))) (by decide)) <|
  zcons (a := (40, zi_al 0 41)) (zs_al_n (M := 44) (pc := 40) (zd_eq zk44 (by decide +kernel : decode cX4_weigh 40 = .ok (.aload_n 0, 1)))) <| znil
theorem zS44_1 : ∀ q ∈ zm_c44_1, zm_Snd 44 q.1 q.2 :=
  zcons (a := (41, zi_gi 4 5 44)) (zs_gi (M := 44) (pc := 41) (n := 0) (ci := 4) (k := 5) (C := RX4) (T := TX4) (N := 6) (zd_eq zk44 (by decide +kernel : decode cX4_weigh 41 = .ok (.getfield 44, 3))) rfl (by decide) (by decide) zin_4 (zl_f zo44 zw_170)) <|
  zcons (a := (44, zi_bin (· * ·) 45)) (zs_imul (M := 44) (pc := 44) (zd_eq zk44 (by decide +kernel : decode cX4_weigh 44 = .ok (.imul, 1)))) <|
  zcons (a := (45, zi_al 0 46)) (zs_al_n (M := 44) (pc := 45) (zd_eq zk44 (by decide +kernel : decode cX4_weigh 45 = .ok (.aload_n 0, 1)))) <|
  zcons (a := (46, zi_gr 4 0 49)) (zs_gr (M := 44) (pc := 46) (n := 0) (ci := 4) (k := 0) (C := RX4) (T := TX4) (N := 6) (zd_eq zk44 (by decide +kernel : decode cX4_weigh 46 = .ok (.getfield 9, 3))) rfl (by decide) (by decide) zin_4 (zl_f zo44 zw_161)) <|
  zcons (a := (49, zi_il 1 50)) (zs_il_n (M := 44) (pc := 49) (zd_eq zk44 (by decide +kernel : decode cX4_weigh 49 = .ok (.iload_n 1, 1)))) <|
  zcons (a := (50, zi_ald 1 51)) (zs_bald (M := 44) (pc := 50) (zd_eq zk44 (by decide +kernel : decode cX4_weigh 50 = .ok (.baload, 1)))) <|
  zcons (a := (51, zi_k (.int 48) 53)) (zs_bipush (M := 44) (pc := 51) (zd_eq zk44 (by decide +kernel : decode cX4_weigh 51 = .ok (.bipush 48, 2))) (by decide)) <|
  zcons (a := (53, zi_bin (· - ·) 54)) (zs_isub (M := 44) (pc := 53) (zd_eq zk44 (by decide +kernel : decode cX4_weigh 53 = .ok (.isub, 1)))) <|
  zcons (a := (54, zi_bin (· + ·) 55)) (zs_iadd (M := 44) (pc := 54) (zd_eq zk44 (by decide +kernel : decode cX4_weigh 54 = .ok (.iadd, 1)))) <|
  zcons (a := (55, zi_pf 4 5 58)) (zs_pf (M := 44) (pc := 55) (ci := 4) (k := 5) (C := RX4) (T := TX4) (N := 6) (ty0 := tyX4) (zd_eq zk44 (by decide +kernel : decode cX4_weigh 55 = .ok (.putfield 44, 3))) rfl (by decide) (by decide) zin_4 (zl_f zo44 zw_170) tyX4_ok nmX4 rfl (tyX4_ok 5 (by decide))) <|
  zcons (a := (58, zi_inc 1 1 61)) (zs_inc (M := 44) (pc := 58) (zd_eq zk44 (by decide +kernel : decode cX4_weigh 58 = .ok (.iinc 1 1, 3))) (by decide) (by decide +kernel) (by decide +kernel)) <|
  zcons (a := (61, zi_go 29)) (zs_goto (M := 44) (pc := 61) (zd_eq zk44 (by decide +kernel : decode cX4_weigh 61 = .ok (.goto (-32), 3))) (by decide)) <|
  zcons (a := (64, zi_rv)) (zs_rv (M := 44) (pc := 64) (zd_eq zk44 (by decide +kernel : decode cX4_weigh 64 = .ok (.return_, 1))) rfl) <| znil
theorem zS44 : ∀ pc, zm_Snd 44 pc (zm_lk2 zm_c44 pc) := zlk2 (zcons2 zS44_0 (zcons2 zS44_1 (znil2)))
theorem zS45_0 : ∀ q ∈ zm_c45_0, zm_Snd 45 q.1 q.2 :=
  zcons (a := (0, zi_il 0 1)) (zs_il_n (M := 45) (pc := 0) (zd_eq zk45 (by decide +kernel : decode cX4_sortOf 0 = .ok (.iload_n 0, 1)))) <|
  zcons (a := (1, zi_k (.int 97) 3)) (zs_bipush (M := 45) (pc := 1) (zd_eq zk45 (by decide +kernel : decode cX4_sortOf 1 = .ok (.bipush 97, 2))) (by decide)) <|
  zcons (a := (3, zi_b2 (fun x y => x < y) 14 6)) (zs_icmplt (M := 45) (pc := 3) (zd_eq zk45 (by decide +kernel : decode cX4_sortOf 3 = .ok (.if_icmp .lt 11, 3))) (by decide)) <|
  zcons (a := (6, zi_il 0 7)) (zs_il_n (M := 45) (pc := 6) (zd_eq zk45 (by decide +kernel : decode cX4_sortOf 6 = .ok (.iload_n 0, 1)))) <|
  zcons (a := (7, zi_k (.int 122) 9)) (zs_bipush (M := 45) (pc := 7) (zd_eq zk45 (by decide +kernel : decode cX4_sortOf 7 = .ok (.bipush 122, 2))) (by decide)) <|
  zcons (a := (9, zi_b2 (fun x y => y < x) 14 12)) (zs_icmpgt (M := 45) (pc := 9) (zd_eq zk45 (by decide +kernel : decode cX4_sortOf 9 = .ok (.if_icmp .gt 5, 3))) (by decide)) <|
  zcons (a := (12, zi_k (.int 0) 13)) (zs_iconst (M := 45) (pc := 12) (zd_eq zk45 (by decide +kernel : decode cX4_sortOf 12 = .ok (.iconst 0, 1))) (by decide)) <|
  zcons (a := (13, zi_ri)) (zs_ri (M := 45) (pc := 13) (zd_eq zk45 (by decide +kernel : decode cX4_sortOf 13 = .ok (.ireturn, 1))) rfl) <|
  zcons (a := (14, zi_il 0 15)) (zs_il_n (M := 45) (pc := 14) (zd_eq zk45 (by decide +kernel : decode cX4_sortOf 14 = .ok (.iload_n 0, 1)))) <|
  zcons (a := (15, zi_k (.int 48) 17)) (zs_bipush (M := 45) (pc := 15) (zd_eq zk45 (by decide +kernel : decode cX4_sortOf 15 = .ok (.bipush 48, 2))) (by decide)) <|
  zcons (a := (17, zi_b2 (fun x y => x < y) 28 20)) (zs_icmplt (M := 45) (pc := 17) (zd_eq zk45 (by decide +kernel : decode cX4_sortOf 17 = .ok (.if_icmp .lt 11, 3))) (by decide)) <|
  zcons (a := (20, zi_il 0 21)) (zs_il_n (M := 45) (pc := 20) (zd_eq zk45 (by decide +kernel : decode cX4_sortOf 20 = .ok (.iload_n 0, 1)))) <|
  zcons (a := (21, zi_k (.int 57) 23)) (zs_bipush (M := 45) (pc := 21) (zd_eq zk45 (by decide +kernel : decode cX4_sortOf 21 = .ok (.bipush 57, 2))) (by decide)) <|
  zcons (a := (23, zi_b2 (fun x y => y < x) 28 26)) (zs_icmpgt (M := 45) (pc := 23) (zd_eq zk45 (by decide +kernel : decode cX4_sortOf 23 = .ok (.if_icmp .gt 5, 3))) (by decide)) <|
  zcons (a := (26, zi_k (.int 1) 27)) (zs_iconst (M := 45) (pc := 26) (zd_eq zk45 (by decide +kernel : decode cX4_sortOf 26 = .ok (.iconst 1, 1))) (by decide)) <|
  zcons (a := (27, zi_ri)) (zs_ri (M := 45) (pc := 27) (zd_eq zk45 (by decide +kernel : decode cX4_sortOf 27 = .ok (.ireturn, 1))) rfl) <|
  zcons (a := (28, zi_il 0 29)) (zs_il_n (M := 45) (pc := 28) (zd_eq zk45 (by decide +kernel : decode cX4_sortOf 28 = .ok (.iload_n 0, 1)))) <|
  zcons (a := (29, zi_k (.int 59) 31)) (zs_bipush (M := 45) (pc := 29) (zd_eq zk45 (by decide +kernel : decode cX4_sortOf 29 = .ok (.bipush 59, 2))) (by decide)) <|
  zcons (a := (31, zi_b2 (fun x y => ¬ x = y) 38 34)) (zs_icmpne (M := 45) (pc := 31) (zd_eq zk45 (by decide +kernel : decode cX4_sortOf 31 = .ok (.if_icmp .ne 7, 3))) (by decide)) <|
  zcons (a := (34, zi_k (.int 2) 35)) (zs_iconst (M := 45) (pc := 34) (zd_eq zk45 (by decide +kernel : decode cX4_sortOf 34 = .ok (.iconst 2, 1))) (by decide)) <|
  zcons (a := (35, zi_go 39)) (zs_goto (M := 45) (pc := 35) (zd_eq zk45 (by decide +kernel : decode cX4_sortOf 35 = .ok (.goto 4, 3))) (by decide)) <|
  zcons (a := (38, zi_k (.int 3) 39)) (zs_iconst (M := 45) (pc := 38) (zd_eq zk45 (by decide +kernel : decode cX4_sortOf 38 = .ok (.iconst 3, 1))) (by decide)) <|
  zcons (a := (39, zi_ri)) (zs_ri (M := 45) (pc := 39) (zd_eq zk45 (by decide +kernel : decode cX4_sortOf 39 = .ok (.ireturn, 1))) rfl) <| znil
theorem zS45 : ∀ pc, zm_Snd 45 pc (zm_lk2 zm_c45 pc) := zlk2 (zcons2 zS45_0 (znil2))
theorem zS46_0 : ∀ q ∈ zm_c46_0, zm_Snd 46 q.1 q.2 :=
  zcons (a := (0, zi_al 0 1)) (zs_al_n (M := 46) (pc := 0) (zd_eq zk46 (by decide +kernel : decode cX5_init 0 = .ok (.aload_n 0, 1)))) <|
  zcons (a := (1, zi_oi 4)) (zs_oi (M := 46) (pc := 1) (zd_eq zk46 (by decide +kernel : decode cX5_init 1 = .ok (.invokespecial 3, 3))) (zl_mo zo46 zw_154) zw_71 zw_72) <|
  zcons (a := (4, zi_al 0 5)) (zs_al_n (M := 46) (pc := 4) (zd_eq zk46 (by decide +kernel : decode cX5_init 4 = .ok (.aload_n 0, 1)))) <|
  zcons (a := (5, zi_new 4 8)) (zs_new (M := 46) (pc := 5) (ci := 4) (C := RX4) (T := TX4) (N := 6) (ty := tyX4) (zd_eq zk46 (by decide +kernel : decode cX5_init 5 = .ok (.new 9, 3))) rfl rfl zin_4 tyX4_ok (zl_c zo46 zw_155) zw_156 zw_55 zdf_4 zvr_4) <|
  zcons (a := (8, zi_dup 9)) (zs_dup (M := 46) (pc := 8) (zd_eq zk46 (by decide +kernel : decode cX5_init 8 = .ok (.dup, 1)))) <|
  zcons (a := (9, zi_ci 39 0 12 0)) (zs_ci (M := 46) (pc := 9) (M' := 39) (k := 0) (kd := 0) (zd_eq zk46 (by decide +kernel : decode cX5_init 9 = .ok (.invokespecial 11, 3))) zWd39 (Or.inl (zl_m zo46 zy39 zw_157)) (zl_i zy39 zw_158) rfl (by rw [zy39]; rfl)) <|
  zcons (a := (12, zi_pr 5 0 15)) (zs_pr (M := 46) (pc := 12) (ci := 5) (k := 0) (C := RX5) (T := TX5) (N := 6) (ty0 := tyX5) (zd_eq zk46 (by decide +kernel : decode cX5_init 12 = .ok (.putfield 12, 3))) rfl (by decide) (by decide) zin_5 (zl_f zo46 zw_187) tyX5_ok nmX5 rfl (by rw [zy46]; rfl) (by rw [zo46]; rfl) (tyX5_ok 0 (by decide)) (fun _ => rfl) (fun _ => rfl)) <|
  zcons (a := (15, zi_al 0 16)) (zs_al_n (M := 46) (pc := 15) (zd_eq zk46 (by decide +kernel : decode cX5_init 15 = .ok (.aload_n 0, 1)))) <|
  zcons (a := (16, zi_new 1 19)) (zs_new (M := 46) (pc := 16) (ci := 1) (C := RX1) (T := TX1) (N := 4) (ty := tyX1) (zd_eq zk46 (by decide +kernel : decode cX5_init 16 = .ok (.new 18, 3))) rfl rfl zin_1 tyX1_ok (zl_c zo46 zw_185) zw_74 zw_50 zdf_1 zvr_1) <|
  zcons (a := (19, zi_dup 20)) (zs_dup (M := 46) (pc := 19) (zd_eq zk46 (by decide +kernel : decode cX5_init 19 = .ok (.dup, 1)))) <|
  zcons (a := (20, zi_ci 28 0 23 0)) (zs_ci (M := 46) (pc := 20) (M' := 28) (k := 0) (kd := 0) (zd_eq zk46 (by decide +kernel : decode cX5_init 20 = .ok (.invokespecial 20, 3))) zWd28 (Or.inl (zl_m zo46 zy28 zw_186)) (zl_i zy28 zw_76) rfl (by rw [zy28]; rfl)) <|
  zcons (a := (23, zi_pr 5 1 26)) (zs_pr (M := 46) (pc := 23) (ci := 5) (k := 1) (C := RX5) (T := TX5) (N := 6) (ty0 := tyX5) (zd_eq zk46 (by decide +kernel : decode cX5_init 23 = .ok (.putfield 21, 3))) rfl (by decide) (by decide) zin_5 (zl_f zo46 zw_189) tyX5_ok nmX5 rfl (by rw [zy46]; rfl) (by rw [zo46]; rfl) (tyX5_ok 1 (by decide)) (fun _ => rfl) (fun _ => rfl)) <|
  zcons (a := (26, zi_rv)) (zs_rv (M := 46) (pc := 26) (zd_eq zk46 (by decide +kernel : decode cX5_init 26 = .ok (.return_, 1))) rfl) <| znil
theorem zS46 : ∀ pc, zm_Snd 46 pc (zm_lk2 zm_c46 pc) := zlk2 (zcons2 zS46_0 (znil2))
theorem zS47_0 : ∀ q ∈ zm_c47_0, zm_Snd 47 q.1 q.2 :=
  zcons (a := (0, zi_al 0 1)) (zs_al_n (M := 47) (pc := 0) (zd_eq zk47 (by decide +kernel : decode cX5_readAll 0 = .ok (.aload_n 0, 1)))) <|
  zcons (a := (1, zi_gr 5 1 4)) (zs_gr (M := 47) (pc := 1) (n := 0) (ci := 5) (k := 1) (C := RX5) (T := TX5) (N := 6) (zd_eq zk47 (by decide +kernel : decode cX5_readAll 1 = .ok (.getfield 21, 3))) rfl (by decide) (by decide) zin_5 (zl_f zo47 zw_189)) <|
  zcons (a := (4, zi_cv 29 0 1 7 0)) (zs_cv (M := 47) (pc := 4) (M' := 29) (k := 0) (kd := 0) (ci := 1) (q := (RX1, TX1, 4)) (zd_eq zk47 (by decide +kernel : decode cX5_readAll 4 = .ok (.invokevirtual 25, 3))) zWd29 (zl_m zo47 zy29 zw_299) (zl_i zy29 zw_300) (zl_e zy29 zw_301) (by decide) rfl (by rw [zo29])) <|
  zcons (a := (7, zi_al 0 8)) (zs_al_n (M := 47) (pc := 7) (zd_eq zk47 (by decide +kernel : decode cX5_readAll 7 = .ok (.aload_n 0, 1)))) <|
  zcons (a := (8, zi_k (.int 0) 9)) (zs_iconst (M := 47) (pc := 8) (zd_eq zk47 (by decide +kernel : decode cX5_readAll 8 = .ok (.iconst 0, 1))) (by decide)) <|
  zcons (a := (9, zi_pf 5 5 12)) (zs_pf (M := 47) (pc := 9) (ci := 5) (k := 5) (C := RX5) (T := TX5) (N := 6) (ty0 := tyX5) (zd_eq zk47 (by decide +kernel : decode cX5_readAll 9 = .ok (.putfield 28, 3))) rfl (by decide) (by decide) zin_5 (zl_f zo47 zw_197) tyX5_ok nmX5 rfl (tyX5_ok 5 (by decide))) <|
  zcons (a := (12, zi_al 0 13)) (zs_al_n (M := 47) (pc := 12) (zd_eq zk47 (by decide +kernel : decode cX5_readAll 12 = .ok (.aload_n 0, 1)))) <|
  zcons (a := (13, zi_k (.int 0) 14)) (zs_iconst (M := 47) (pc := 13) (zd_eq zk47 (by decide +kernel : decode cX5_readAll 13 = .ok (.iconst 0, 1))) (by decide)) <|
  zcons (a := (14, zi_pf 5 2 17)) (zs_pf (M := 47) (pc := 14) (ci := 5) (k := 2) (C := RX5) (T := TX5) (N := 6) (ty0 := tyX5) (zd_eq zk47 (by decide +kernel : decode cX5_readAll 14 = .ok (.putfield 32, 3))) rfl (by decide) (by decide) zin_5 (zl_f zo47 zw_191) tyX5_ok nmX5 rfl (tyX5_ok 2 (by decide))) <|
  zcons (a := (17, zi_al 0 18)) (zs_al_n (M := 47) (pc := 17) (zd_eq zk47 (by decide +kernel : decode cX5_readAll 17 = .ok (.aload_n 0, 1)))) <|
  zcons (a := (18, zi_k (.int 0) 19)) (zs_iconst (M := 47) (pc := 18) (zd_eq zk47 (by decide +kernel : decode cX5_readAll 18 = .ok (.iconst 0, 1))) (by decide)) <|
  zcons (a := (19, zi_pf 5 3 22)) (zs_pf (M := 47) (pc := 19) (ci := 5) (k := 3) (C := RX5) (T := TX5) (N := 6) (ty0 := tyX5) (zd_eq zk47 (by decide +kernel : decode cX5_readAll 19 = .ok (.putfield 35, 3))) rfl (by decide) (by decide) zin_5 (zl_f zo47 zw_193) tyX5_ok nmX5 rfl (tyX5_ok 3 (by decide))) <|
  zcons (a := (22, zi_al 0 23)) (zs_al_n (M := 47) (pc := 22) (zd_eq zk47 (by decide +kernel : decode cX5_readAll 22 = .ok (.aload_n 0, 1)))) <|
  zcons (a := (23, zi_k (.int 0) 24)) (zs_iconst (M := 47) (pc := 23) (zd_eq zk47 (by decide +kernel : decode cX5_readAll 23 = .ok (.iconst 0, 1))) (by decide)) <|
  zcons (a := (24, zi_pf 5 4 27)) (zs_pf (M := 47) (pc := 24) (ci := 5) (k := 4) (C := RX5) (T := TX5) (N := 6) (ty0 := tyX5) (zd_eq zk47 (by decide +kernel : decode cX5_readAll 24 = .ok (.putfield 38, 3))) rfl (by decide) (by decide) zin_5 (zl_f zo47 zw_195) tyX5_ok nmX5 rfl (tyX5_ok 4 (by decide))) <|
  zcons (a := (27, zi_al 0 28)) (zs_al_n (M := 47) (pc := 27) (zd_eq zk47 (by decide +kernel : decode cX5_readAll 27 = .ok (.aload_n 0, 1)))) <|
  zcons (a := (28, zi_gr 5 0 31)) (zs_gr (M := 47) (pc := 28) (n := 0) (ci := 5) (k := 0) (C := RX5) (T := TX5) (N := 6) (zd_eq zk47 (by decide +kernel : decode cX5_readAll 28 = .ok (.getfield 12, 3))) rfl (by decide) (by decide) zin_5 (zl_f zo47 zw_187)) <|
  zcons (a := (31, zi_cv 41 0 4 34 0)) (zs_cv (M := 47) (pc := 31) (M' := 41) (k := 0) (kd := 0) (ci := 4) (q := (RX4, TX4, 6)) (zd_eq zk47 (by decide +kernel : decode cX5_readAll 31 = .ok (.invokevirtual 41, 3))) zWd41 (zl_m zo47 zy41 zw_303) (zl_i zy41 zw_304) (zl_e zy41 zw_305) (by decide) rfl (by rw [zo41])) <|
  zcons (a := (34, zi_k (.int 0) 35)) (zs_iconst (M := 47) (pc := 34) (zd_eq zk47 (by decide +kernel : decode cX5_readAll 34 = .ok (.iconst 0, 1))) (by decide)) <|
  zcons (a := (35, zi_is 1 36)) (zs_is_n (M := 47) (pc := 35) (zd_eq zk47 (by decide +kernel : decode cX5_readAll 35 = .ok (.istore_n 1, 1))) (by decide +kernel) (by decide +kernel)) <|
  zcons (a := (36, zi_il 1 37)) (zs_il_n (M := 47) (pc := 36) (zd_eq zk47 (by decide +kernel : decode cX5_readAll 36 = .ok (.iload_n 1, 1)))) <|
  zcons (a := (37, zi_k (.int 160) 40)) (zs_sipush (M := 47) (pc := 37) (zd_eq zk47 (by decide +kernel : decode cX5_readAll 37 = .ok (.sipush 160, 3))) (by decide)) <|
  zcons (a := (40, zi_b2 (fun x y => y < x) 85 43)) (zs_icmpgt (M := 47) (pc := 40) (zd_eq zk47 (by decide +kernel : decode cX5_readAll 40 = .ok (.if_icmp .gt 45, 3))) (by decide)) <|
  zcons (a := (43, zi_al 0 44)) (zs_al_n (M := 47) (pc := 43) (zd_eq zk47 (by decide +kernel : decode cX5_readAll 43 = .ok (.aload_n 0, 1)))) <| znil
theorem zS47_1 : ∀ q ∈ zm_c47_1, zm_Snd 47 q.1 q.2 :=
  zcons (a := (44, zi_gr 5 0 47)) (zs_gr (M := 47) (pc := 44) (n := 0) (ci := 5) (k := 0) (C := RX5) (T := TX5) (N := 6) (zd_eq zk47 (by decide +kernel : decode cX5_readAll 44 = .ok (.getfield 12, 3))) rfl (by decide) (by decide) zin_5 (zl_f zo47 zw_187)) <|
  zcons (a := (47, zi_cv 42 0 4 50 0)) (zs_cv (M := 47) (pc := 47) (M' := 42) (k := 0) (kd := 0) (ci := 4) (q := (RX4, TX4, 6)) (zd_eq zk47 (by decide +kernel : decode cX5_readAll 47 = .ok (.invokevirtual 44, 3))) zWd42 (zl_m zo47 zy42 zw_307) (zl_i zy42 zw_308) (zl_e zy42 zw_309) (by decide) rfl (by rw [zo42])) <|
  zcons (a := (50, zi_al 0 51)) (zs_al_n (M := 47) (pc := 50) (zd_eq zk47 (by decide +kernel : decode cX5_readAll 50 = .ok (.aload_n 0, 1)))) <|
  zcons (a := (51, zi_gr 5 0 54)) (zs_gr (M := 47) (pc := 51) (n := 0) (ci := 5) (k := 0) (C := RX5) (T := TX5) (N := 6) (zd_eq zk47 (by decide +kernel : decode cX5_readAll 51 = .ok (.getfield 12, 3))) rfl (by decide) (by decide) zin_5 (zl_f zo47 zw_187)) <|
  zcons (a := (54, zi_gi 4 3 57)) (zs_gi (M := 47) (pc := 54) (n := 0) (ci := 4) (k := 3) (C := RX4) (T := TX4) (N := 6) (zd_eq zk47 (by decide +kernel : decode cX5_readAll 54 = .ok (.getfield 47, 3))) rfl (by decide) (by decide) zin_4 (zl_f zo47 zw_165)) <|
  zcons (a := (57, zi_k (.int 4) 58)) (zs_iconst (M := 47) (pc := 57) (zd_eq zk47 (by decide +kernel : decode cX5_readAll 57 = .ok (.iconst 4, 1))) (by decide)) <|
  zcons (a := (58, zi_b2 (fun x y => x = y) 68 61)) (zs_icmpeq (M := 47) (pc := 58) (zd_eq zk47 (by decide +kernel : decode cX5_readAll 58 = .ok (.if_icmp .eq 10, 3))) (by decide)) <|
  zcons (a := (61, zi_al 0 62)) (zs_al_n (M := 47) (pc := 61) (zd_eq zk47 (by decide +kernel : decode cX5_readAll 61 = .ok (.aload_n 0, 1)))) <|
  zcons (a := (62, zi_cv 48 0 5 65 1)) (zs_cv (M := 47) (pc := 62) (M' := 48) (k := 0) (kd := 1) (ci := 5) (q := (RX5, TX5, 6)) (zd_eq zk47 (by decide +kernel : decode cX5_readAll 62 = .ok (.invokevirtual 50, 3))) zWd48 (zl_m zo47 zy48 zw_318) (zl_i zy48 zw_320) (zl_e zy48 zw_1) (by decide) rfl (by rw [zo48])) <|
  zcons (a := (65, zi_b1 (fun x => ¬ x = 0) 69 68)) (zs_ifne (M := 47) (pc := 65) (zd_eq zk47 (by decide +kernel : decode cX5_readAll 65 = .ok (.ifCond .ne 4, 3))) (by decide)) <|
  zcons (a := (68, zi_rv)) (zs_rv (M := 47) (pc := 68) (zd_eq zk47 (by decide +kernel : decode cX5_readAll 68 = .ok (.return_, 1))) rfl) <|
  zcons (a := (69, zi_al 0 70)) (zs_al_n (M := 47) (pc := 69) (zd_eq zk47 (by decide +kernel : decode cX5_readAll 69 = .ok (.aload_n 0, 1)))) <|
  zcons (a := (70, zi_dup 71)) (zs_dup (M := 47) (pc := 70) (zd_eq zk47 (by decide +kernel : decode cX5_readAll 70 = .ok (.dup, 1)))) <|
  zcons (a := (71, zi_gi 5 2 74)) (zs_gi (M := 47) (pc := 71) (n := 0) (ci := 5) (k := 2) (C := RX5) (T := TX5) (N := 6) (zd_eq zk47 (by decide +kernel : decode cX5_readAll 71 = .ok (.getfield 32, 3))) rfl (by decide) (by decide) zin_5 (zl_f zo47 zw_191)) <|
  zcons (a := (74, zi_k (.int 1) 75)) (zs_iconst (M := 47) (pc := 74) (zd_eq zk47 (by decide +kernel : decode cX5_readAll 74 = .ok (.iconst 1, 1))) (by decide)) <|
  zcons (a := (75, zi_bin (· + ·) 76)) (zs_iadd (M := 47) (pc := 75) (zd_eq zk47 (by decide +kernel : decode cX5_readAll 75 = .ok (.iadd, 1)))) <|
  zcons (a := (76, zi_pf 5 2 79)) (zs_pf (M := 47) (pc := 76) (ci := 5) (k := 2) (C := RX5) (T := TX5) (N := 6) (ty0 := tyX5) (zd_eq zk47 (by decide +kernel : decode cX5_readAll 76 = .ok (.putfield 32, 3))) rfl (by decide) (by decide) zin_5 (zl_f zo47 zw_191) tyX5_ok nmX5 rfl (tyX5_ok 2 (by decide))) <|
  zcons (a := (79, zi_inc 1 1 82)) (zs_inc (M := 47) (pc := 79) (zd_eq zk47 (by decide +kernel : decode cX5_readAll 79 = .ok (.iinc 1 1, 3))) (by decide) (by decide +kernel) (by decide +kernel)) <|
  zcons (a := (82, zi_go 36)) (zs_goto (M := 47) (pc := 82) (zd_eq zk47 (by decide +kernel : decode cX5_readAll 82 = .ok (.goto (-46), 3))) (by decide)) <|
  zcons (a := (85, zi_rv)) (zs_rv (M := 47) (pc := 85) (zd_eq zk47 (by decide +kernel : decode cX5_readAll 85 = .ok (.return_, 1))) rfl) <| znil
theorem zS47 : ∀ pc, zm_Snd 47 pc (zm_lk2 zm_c47 pc) := zlk2 (zcons2 zS47_0 (zcons2 zS47_1 (znil2)))
theorem zS48_0 : ∀ q ∈ zm_c48_0, zm_Snd 48 q.1 q.2 :=
  zcons (a := (0, zi_al 0 1)) (zs_al_n (M := 48) (pc := 0) (zd_eq zk48 (by decide +kernel : decode cX5_readLine 0 = .ok (.aload_n 0, 1)))) <|
  zcons (a := (1, zi_cv 49 0 5 4 1)) (zs_cv (M := 48) (pc := 1) (M' := 49) (k := 0) (kd := 1) (ci := 5) (q := (RX5, TX5, 6)) (zd_eq zk48 (by decide +kernel : decode cX5_readLine 1 = .ok (.invokevirtual 54, 3))) zWd49 (zl_m zo48 zy49 zw_322) (zl_i zy49 zw_324) (zl_e zy49 zw_2) (by decide) rfl (by rw [zo49])) <|
  zcons (a := (4, zi_is 1 5)) (zs_is_n (M := 48) (pc := 4) (zd_eq zk48 (by decide +kernel : decode cX5_readLine 4 = .ok (.istore_n 1, 1))) (by decide +kernel) (by decide +kernel)) <|
  zcons (a := (5, zi_il 1 6)) (zs_il_n (M := 48) (pc := 5) (zd_eq zk48 (by decide +kernel : decode cX5_readLine 5 = .ok (.iload_n 1, 1)))) <|
  zcons (a := (6, zi_k (.int (-4)) 8)) (zs_bipush (M := 48) (pc := 6) (zd_eq zk48 (by decide +kernel : decode cX5_readLine 6 = .ok (.bipush (-4), 2))) (by decide)) <|
  zcons (a := (8, zi_b2 (fun x y => x = y) 17 11)) (zs_icmpeq (M := 48) (pc := 8) (zd_eq zk48 (by decide +kernel : decode cX5_readLine 8 = .ok (.if_icmp .eq 9, 3))) (by decide)) <|
  zcons (a := (11, zi_al 0 12)) (zs_al_n (M := 48) (pc := 11) (zd_eq zk48 (by decide +kernel : decode cX5_readLine 11 = .ok (.aload_n 0, 1)))) <|
  zcons (a := (12, zi_il 1 13)) (zs_il_n (M := 48) (pc := 12) (zd_eq zk48 (by decide +kernel : decode cX5_readLine 12 = .ok (.iload_n 1, 1)))) <|
  zcons (a := (13, zi_cv 50 1 5 16 1)) (zs_cv (M := 48) (pc := 13) (M' := 50) (k := 1) (kd := 1) (ci := 5) (q := (RX5, TX5, 6)) (zd_eq zk48 (by decide +kernel : decode cX5_readLine 13 = .ok (.invokevirtual 58, 3))) zWd50 (zl_m zo48 zy50 zw_382) (zl_i zy50 zw_384) (zl_e zy50 zw_3) (by decide) rfl (by rw [zo50])) <|
  zcons (a := (16, zi_rz)) (zs_rz (M := 48) (pc := 16) (zd_eq zk48 (by decide +kernel : decode cX5_readLine 16 = .ok (.ireturn, 1))) rfl) <|
  zcons (a := (17, zi_al 0 18)) (zs_al_n (M := 48) (pc := 17) (zd_eq zk48 (by decide +kernel : decode cX5_readLine 17 = .ok (.aload_n 0, 1)))) <|
  zcons (a := (18, zi_gr 5 0 21)) (zs_gr (M := 48) (pc := 18) (n := 0) (ci := 5) (k := 0) (C := RX5) (T := TX5) (N := 6) (zd_eq zk48 (by decide +kernel : decode cX5_readLine 18 = .ok (.getfield 12, 3))) rfl (by decide) (by decide) zin_5 (zl_f zo48 zw_187)) <|
  zcons (a := (21, zi_k (.ref 1000006) 23)) (zs_str (M := 48) (pc := 21) 4 (by decide) rfl zo48 (zd_eq zk48 (by decide +kernel : decode cX5_readLine 21 = .ok (.ldc 62, 2)))) <|
  zcons (a := (23, zi_cv 43 1 4 26 1)) (zs_cv (M := 48) (pc := 23) (M' := 43) (k := 1) (kd := 1) (ci := 4) (q := (RX4, TX4, 6)) (zd_eq zk48 (by decide +kernel : decode cX5_readLine 23 = .ok (.invokevirtual 64, 3))) zWd43 (zl_m zo48 zy43 zw_327) (zl_i zy43 zw_328) (zl_e zy43 zw_329) (by decide) rfl (by rw [zo43])) <|
  zcons (a := (26, zi_b1 (fun x => x = 0) 34 29)) (zs_ifeq (M := 48) (pc := 26) (zd_eq zk48 (by decide +kernel : decode cX5_readLine 26 = .ok (.ifCond .eq 8, 3))) (by decide)) <|
  zcons (a := (29, zi_al 0 30)) (zs_al_n (M := 48) (pc := 29) (zd_eq zk48 (by decide +kernel : decode cX5_readLine 29 = .ok (.aload_n 0, 1)))) <|
  zcons (a := (30, zi_cv 51 0 5 33 1)) (zs_cv (M := 48) (pc := 30) (M' := 51) (k := 0) (kd := 1) (ci := 5) (q := (RX5, TX5, 6)) (zd_eq zk48 (by decide +kernel : decode cX5_readLine 30 = .ok (.invokevirtual 68, 3))) zWd51 (zl_m zo48 zy51 zw_407) (zl_i zy51 zw_409) (zl_e zy51 zw_8) (by decide) rfl (by rw [zo51])) <|
  zcons (a := (33, zi_rz)) (zs_rz (M := 48) (pc := 33) (zd_eq zk48 (by decide +kernel : decode cX5_readLine 33 = .ok (.ireturn, 1))) rfl) <|
  zcons (a := (34, zi_al 0 35)) (zs_al_n (M := 48) (pc := 34) (zd_eq zk48 (by decide +kernel : decode cX5_readLine 34 = .ok (.aload_n 0, 1)))) <|
  zcons (a := (35, zi_cv 54 0 5 38 1)) (zs_cv (M := 48) (pc := 35) (M' := 54) (k := 0) (kd := 1) (ci := 5) (q := (RX5, TX5, 6)) (zd_eq zk48 (by decide +kernel : decode cX5_readLine 35 = .ok (.invokevirtual 71, 3))) zWd54 (zl_m zo48 zy54 zw_394) (zl_i zy54 zw_396) (zl_e zy54 zw_6) (by decide) rfl (by rw [zo54])) <|
  zcons (a := (38, zi_rz)) (zs_rz (M := 48) (pc := 38) (zd_eq zk48 (by decide +kernel : decode cX5_readLine 38 = .ok (.ireturn, 1))) rfl) <| znil
theorem zS48 : ∀ pc, zm_Snd 48 pc (zm_lk2 zm_c48 pc) := zlk2 (zcons2 zS48_0 (znil2))
theorem zS49_0 : ∀ q ∈ zm_c49_0, zm_Snd 49 q.1 q.2 :=
  zcons (a := (0, zi_al 0 1)) (zs_al_n (M := 49) (pc := 0) (zd_eq zk49 (by decide +kernel : decode cX5_kindNamed 0 = .ok (.aload_n 0, 1)))) <|
  zcons (a := (1, zi_gr 5 0 4)) (zs_gr (M := 49) (pc := 1) (n := 0) (ci := 5) (k := 0) (C := RX5) (T := TX5) (N := 6) (zd_eq zk49 (by decide +kernel : decode cX5_kindNamed 1 = .ok (.getfield 12, 3))) rfl (by decide) (by decide) zin_5 (zl_f zo49 zw_187)) <|
  zcons (a := (4, zi_k (.ref 1000002) 6)) (zs_str (M := 49) (pc := 4) 0 (by decide) rfl zo49 (zd_eq zk49 (by decide +kernel : decode cX5_kindNamed 4 = .ok (.ldc 74, 2)))) <|
  zcons (a := (6, zi_cv 43 1 4 9 1)) (zs_cv (M := 49) (pc := 6) (M' := 43) (k := 1) (kd := 1) (ci := 4) (q := (RX4, TX4, 6)) (zd_eq zk49 (by decide +kernel : decode cX5_kindNamed 6 = .ok (.invokevirtual 64, 3))) zWd43 (zl_m zo49 zy43 zw_327) (zl_i zy43 zw_328) (zl_e zy43 zw_329) (by decide) rfl (by rw [zo43])) <|
  zcons (a := (9, zi_b1 (fun x => x = 0) 14 12)) (zs_ifeq (M := 49) (pc := 9) (zd_eq zk49 (by decide +kernel : decode cX5_kindNamed 9 = .ok (.ifCond .eq 5, 3))) (by decide)) <|
  zcons (a := (12, zi_k (.int 0) 13)) (zs_iconst (M := 49) (pc := 12) (zd_eq zk49 (by decide +kernel : decode cX5_kindNamed 12 = .ok (.iconst 0, 1))) (by decide)) <|
  zcons (a := (13, zi_ri)) (zs_ri (M := 49) (pc := 13) (zd_eq zk49 (by decide +kernel : decode cX5_kindNamed 13 = .ok (.ireturn, 1))) rfl) <|
  zcons (a := (14, zi_al 0 15)) (zs_al_n (M := 49) (pc := 14) (zd_eq zk49 (by decide +kernel : decode cX5_kindNamed 14 = .ok (.aload_n 0, 1)))) <|
  zcons (a := (15, zi_gr 5 0 18)) (zs_gr (M := 49) (pc := 15) (n := 0) (ci := 5) (k := 0) (C := RX5) (T := TX5) (N := 6) (zd_eq zk49 (by decide +kernel : decode cX5_kindNamed 15 = .ok (.getfield 12, 3))) rfl (by decide) (by decide) zin_5 (zl_f zo49 zw_187)) <|
  zcons (a := (18, zi_k (.ref 1000003) 20)) (zs_str (M := 49) (pc := 18) 1 (by decide) rfl zo49 (zd_eq zk49 (by decide +kernel : decode cX5_kindNamed 18 = .ok (.ldc 76, 2)))) <|
  zcons (a := (20, zi_cv 43 1 4 23 1)) (zs_cv (M := 49) (pc := 20) (M' := 43) (k := 1) (kd := 1) (ci := 4) (q := (RX4, TX4, 6)) (zd_eq zk49 (by decide +kernel : decode cX5_kindNamed 20 = .ok (.invokevirtual 64, 3))) zWd43 (zl_m zo49 zy43 zw_327) (zl_i zy43 zw_328) (zl_e zy43 zw_329) (by decide) rfl (by rw [zo43])) <|
  zcons (a := (23, zi_b1 (fun x => x = 0) 28 26)) (zs_ifeq (M := 49) (pc := 23) (zd_eq zk49 (by decide +kernel : decode cX5_kindNamed 23 = .ok (.ifCond .eq 5, 3))) (by decide)) <|
  zcons (a := (26, zi_k (.int 1) 27)) (zs_iconst (M := 49) (pc := 26) (zd_eq zk49 (by decide +kernel : decode cX5_kindNamed 26 = .ok (.iconst 1, 1))) (by decide)) <|
  zcons (a := (27, zi_ri)) (zs_ri (M := 49) (pc := 27) (zd_eq zk49 (by decide +kernel : decode cX5_kindNamed 27 = .ok (.ireturn, 1))) rfl) <|
  zcons (a := (28, zi_al 0 29)) (zs_al_n (M := 49) (pc := 28) (zd_eq zk49 (by decide +kernel : decode cX5_kindNamed 28 = .ok (.aload_n 0, 1)))) <|
  zcons (a := (29, zi_gr 5 0 32)) (zs_gr (M := 49) (pc := 29) (n := 0) (ci := 5) (k := 0) (C := RX5) (T := TX5) (N := 6) (zd_eq zk49 (by decide +kernel : decode cX5_kindNamed 29 = .ok (.getfield 12, 3))) rfl (by decide) (by decide) zin_5 (zl_f zo49 zw_187)) <|
  zcons (a := (32, zi_k (.ref 1000004) 34)) (zs_str (M := 49) (pc := 32) 2 (by decide) rfl zo49 (zd_eq zk49 (by decide +kernel : decode cX5_kindNamed 32 = .ok (.ldc 78, 2)))) <|
  zcons (a := (34, zi_cv 43 1 4 37 1)) (zs_cv (M := 49) (pc := 34) (M' := 43) (k := 1) (kd := 1) (ci := 4) (q := (RX4, TX4, 6)) (zd_eq zk49 (by decide +kernel : decode cX5_kindNamed 34 = .ok (.invokevirtual 64, 3))) zWd43 (zl_m zo49 zy43 zw_327) (zl_i zy43 zw_328) (zl_e zy43 zw_329) (by decide) rfl (by rw [zo43])) <|
  zcons (a := (37, zi_b1 (fun x => x = 0) 42 40)) (zs_ifeq (M := 49) (pc := 37) (zd_eq zk49 (by decide +kernel : decode cX5_kindNamed 37 = .ok (.ifCond .eq 5, 3))) (by decide)) <|
  zcons (a := (40, zi_k (.int 2) 41)) (zs_iconst (M := 49) (pc := 40) (zd_eq zk49 (by decide +kernel : decode cX5_kindNamed 40 = .ok (.iconst 2, 1))) (by decide)) <|
  zcons (a := (41, zi_ri)) (zs_ri (M := 49) (pc := 41) (zd_eq zk49 (by decide +kernel : decode cX5_kindNamed 41 = .ok (.ireturn, 1))) rfl) <|
  zcons (a := (42, zi_al 0 43)) (zs_al_n (M := 49) (pc := 42) (zd_eq zk49 (by decide +kernel : decode cX5_kindNamed 42 = .ok (.aload_n 0, 1)))) <|
  zcons (a := (43, zi_gr 5 0 46)) (zs_gr (M := 49) (pc := 43) (n := 0) (ci := 5) (k := 0) (C := RX5) (T := TX5) (N := 6) (zd_eq zk49 (by decide +kernel : decode cX5_kindNamed 43 = .ok (.getfield 12, 3))) rfl (by decide) (by decide) zin_5 (zl_f zo49 zw_187)) <|
  zcons (a := (46, zi_k (.ref 1000005) 48)) (zs_str (M := 49) (pc := 46) 3 (by decide) rfl zo49 (zd_eq zk49 (by decide +kernel : decode cX5_kindNamed 46 = .ok (.ldc 80, 2)))) <| znil
theorem zS49_1 : ∀ q ∈ zm_c49_1, zm_Snd 49 q.1 q.2 :=
  zcons (a := (48, zi_cv 43 1 4 51 1)) (zs_cv (M := 49) (pc := 48) (M' := 43) (k := 1) (kd := 1) (ci := 4) (q := (RX4, TX4, 6)) (zd_eq zk49 (by decide +kernel : decode cX5_kindNamed 48 = .ok (.invokevirtual 64, 3))) zWd43 (zl_m zo49 zy43 zw_327) (zl_i zy43 zw_328) (zl_e zy43 zw_329) (by decide) rfl (by rw [zo43])) <|
  zcons (a := (51, zi_b1 (fun x => x = 0) 58 54)) (zs_ifeq (M := 49) (pc := 51) (zd_eq zk49 (by decide +kernel : decode cX5_kindNamed 51 = .ok (.ifCond .eq 7, 3))) (by decide)) <|
  zcons (a := (54, zi_k (.int 3) 55)) (zs_iconst (M := 49) (pc := 54) (zd_eq zk49 (by decide +kernel : decode cX5_kindNamed 54 = .ok (.iconst 3, 1))) (by decide)) <|
  zcons (a := (55, zi_go 60)) (zs_goto (M := 49) (pc := 55) (zd_eq zk49 (by decide +kernel : decode cX5_kindNamed 55 = .ok (.goto 5, 3))) (by decide)) <|
  zcons (a := (58, zi_k (.int (-4)) 60)) (zs_bipush (M := 49) (pc := 58) (zd_eq zk49 (by decide +kernel : decode cX5_kindNamed 58 = .ok (.bipush (-4), 2))) (by decide)) <|
  zcons (a := (60, zi_ri)) (zs_ri (M := 49) (pc := 60) (zd_eq zk49 (by decide +kernel : decode cX5_kindNamed 60 = .ok (.ireturn, 1))) rfl) <| znil
theorem zS49 : ∀ pc, zm_Snd 49 pc (zm_lk2 zm_c49 pc) := zlk2 (zcons2 zS49_0 (zcons2 zS49_1 (znil2)))
theorem zS50_0 : ∀ q ∈ zm_c50_0, zm_Snd 50 q.1 q.2 :=
  zcons (a := (0, zi_al 0 1)) (zs_al_n (M := 50) (pc := 0) (zd_eq zk50 (by decide +kernel : decode cX5_readFigure 0 = .ok (.aload_n 0, 1)))) <|
  zcons (a := (1, zi_gr 5 1 4)) (zs_gr (M := 50) (pc := 1) (n := 0) (ci := 5) (k := 1) (C := RX5) (T := TX5) (N := 6) (zd_eq zk50 (by decide +kernel : decode cX5_readFigure 1 = .ok (.getfield 21, 3))) rfl (by decide) (by decide) zin_5 (zl_f zo50 zw_189)) <|
  zcons (a := (4, zi_gr 1 0 7)) (zs_gr (M := 50) (pc := 4) (n := 0) (ci := 1) (k := 0) (C := RX1) (T := TX1) (N := 4) (zd_eq zk50 (by decide +kernel : decode cX5_readFigure 4 = .ok (.getfield 82, 3))) rfl (by decide) (by decide) zin_1 (zl_f zo50 zw_122)) <|
  zcons (a := (7, zi_gi 2 1 10)) (zs_gi (M := 50) (pc := 7) (n := 0) (ci := 2) (k := 1) (C := RX2) (T := TX2) (N := 2) (zd_eq zk50 (by decide +kernel : decode cX5_readFigure 7 = .ok (.getfield 86, 3))) rfl (by decide) (by decide) zin_2 (zl_f zo50 zw_111)) <|
  zcons (a := (10, zi_k (.int 5) 11)) (zs_iconst (M := 50) (pc := 10) (zd_eq zk50 (by decide +kernel : decode cX5_readFigure 10 = .ok (.iconst 5, 1))) (by decide)) <|
  zcons (a := (11, zi_b2 (fun x y => x < y) 20 14)) (zs_icmplt (M := 50) (pc := 11) (zd_eq zk50 (by decide +kernel : decode cX5_readFigure 11 = .ok (.if_icmp .lt 9, 3))) (by decide)) <|
  zcons (a := (14, zi_al 0 15)) (zs_al_n (M := 50) (pc := 14) (zd_eq zk50 (by decide +kernel : decode cX5_readFigure 14 = .ok (.aload_n 0, 1)))) <|
  zcons (a := (15, zi_k (.int 5) 16)) (zs_iconst (M := 50) (pc := 15) (zd_eq zk50 (by decide +kernel : decode cX5_readFigure 15 = .ok (.iconst 5, 1))) (by decide)) <|
  zcons (a := (16, zi_cv 55 1 5 19 1)) (zs_cv (M := 50) (pc := 16) (M' := 55) (k := 1) (kd := 1) (ci := 5) (q := (RX5, TX5, 6)) (zd_eq zk50 (by decide +kernel : decode cX5_readFigure 16 = .ok (.invokevirtual 91, 3))) zWd55 (zl_m zo50 zy55 zw_386) (zl_i zy55 zw_388) (zl_e zy55 zw_4) (by decide) rfl (by rw [zo55])) <|
  zcons (a := (19, zi_rz)) (zs_rz (M := 50) (pc := 19) (zd_eq zk50 (by decide +kernel : decode cX5_readFigure 19 = .ok (.ireturn, 1))) rfl) <|
  zcons (a := (20, zi_al 0 21)) (zs_al_n (M := 50) (pc := 20) (zd_eq zk50 (by decide +kernel : decode cX5_readFigure 20 = .ok (.aload_n 0, 1)))) <|
  zcons (a := (21, zi_k (.int 99) 23)) (zs_bipush (M := 50) (pc := 21) (zd_eq zk50 (by decide +kernel : decode cX5_readFigure 21 = .ok (.bipush 99, 2))) (by decide)) <|
  zcons (a := (23, zi_cv 52 1 5 26 1)) (zs_cv (M := 50) (pc := 23) (M' := 52) (k := 1) (kd := 1) (ci := 5) (q := (RX5, TX5, 6)) (zd_eq zk50 (by decide +kernel : decode cX5_readFigure 23 = .ok (.invokevirtual 94, 3))) zWd52 (zl_m zo50 zy52 zw_390) (zl_i zy52 zw_392) (zl_e zy52 zw_5) (by decide) rfl (by rw [zo52])) <|
  zcons (a := (26, zi_b1 (fun x => ¬ x = 0) 31 29)) (zs_ifne (M := 50) (pc := 26) (zd_eq zk50 (by decide +kernel : decode cX5_readFigure 26 = .ok (.ifCond .ne 5, 3))) (by decide)) <|
  zcons (a := (29, zi_k (.int 0) 30)) (zs_iconst (M := 50) (pc := 29) (zd_eq zk50 (by decide +kernel : decode cX5_readFigure 29 = .ok (.iconst 0, 1))) (by decide)) <|
  zcons (a := (30, zi_rz)) (zs_rz (M := 50) (pc := 30) (zd_eq zk50 (by decide +kernel : decode cX5_readFigure 30 = .ok (.ireturn, 1))) rfl) <|
  zcons (a := (31, zi_al 0 32)) (zs_al_n (M := 50) (pc := 31) (zd_eq zk50 (by decide +kernel : decode cX5_readFigure 31 = .ok (.aload_n 0, 1)))) <|
  zcons (a := (32, zi_gr 5 0 35)) (zs_gr (M := 50) (pc := 32) (n := 0) (ci := 5) (k := 0) (C := RX5) (T := TX5) (N := 6) (zd_eq zk50 (by decide +kernel : decode cX5_readFigure 32 = .ok (.getfield 12, 3))) rfl (by decide) (by decide) zin_5 (zl_f zo50 zw_187)) <|
  zcons (a := (35, zi_gi 4 5 38)) (zs_gi (M := 50) (pc := 35) (n := 0) (ci := 4) (k := 5) (C := RX4) (T := TX4) (N := 6) (zd_eq zk50 (by decide +kernel : decode cX5_readFigure 35 = .ok (.getfield 97, 3))) rfl (by decide) (by decide) zin_4 (zl_f zo50 zw_169)) <|
  zcons (a := (38, zi_is 2 39)) (zs_is_n (M := 50) (pc := 38) (zd_eq zk50 (by decide +kernel : decode cX5_readFigure 38 = .ok (.istore_n 2, 1))) (by decide +kernel) (by decide +kernel)) <|
  zcons (a := (39, zi_al 0 40)) (zs_al_n (M := 50) (pc := 39) (zd_eq zk50 (by decide +kernel : decode cX5_readFigure 39 = .ok (.aload_n 0, 1)))) <|
  zcons (a := (40, zi_k (.int 40) 42)) (zs_bipush (M := 50) (pc := 40) (zd_eq zk50 (by decide +kernel : decode cX5_readFigure 40 = .ok (.bipush 40, 2))) (by decide)) <|
  zcons (a := (42, zi_cv 52 1 5 45 1)) (zs_cv (M := 50) (pc := 42) (M' := 52) (k := 1) (kd := 1) (ci := 5) (q := (RX5, TX5, 6)) (zd_eq zk50 (by decide +kernel : decode cX5_readFigure 42 = .ok (.invokevirtual 94, 3))) zWd52 (zl_m zo50 zy52 zw_390) (zl_i zy52 zw_392) (zl_e zy52 zw_5) (by decide) rfl (by rw [zo52])) <|
  zcons (a := (45, zi_b1 (fun x => ¬ x = 0) 50 48)) (zs_ifne (M := 50) (pc := 45) (zd_eq zk50 (by decide +kernel : decode cX5_readFigure 45 = .ok (.ifCond .ne 5, 3))) (by decide)) <| znil
theorem zS50_1 : ∀ q ∈ zm_c50_1, zm_Snd 50 q.1 q.2 :=
  zcons (a := (48, zi_k (.int 0) 49)) (zs_iconst (M := 50) (pc := 48) (zd_eq zk50 (by decide +kernel : decode cX5_readFigure 48 = .ok (.iconst 0, 1))) (by decide)) <|
  zcons (a := (49, zi_rz)) (zs_rz (M := 50) (pc := 49) (zd_eq zk50 (by decide +kernel : decode cX5_readFigure 49 = .ok (.ireturn, 1))) rfl) <|
  zcons (a := (50, zi_al 0 51)) (zs_al_n (M := 50) (pc := 50) (zd_eq zk50 (by decide +kernel : decode cX5_readFigure 50 = .ok (.aload_n 0, 1)))) <|
  zcons (a := (51, zi_gr 5 1 54)) (zs_gr (M := 50) (pc := 51) (n := 0) (ci := 5) (k := 1) (C := RX5) (T := TX5) (N := 6) (zd_eq zk50 (by decide +kernel : decode cX5_readFigure 51 = .ok (.getfield 21, 3))) rfl (by decide) (by decide) zin_5 (zl_f zo50 zw_189)) <|
  zcons (a := (54, zi_gr 1 0 57)) (zs_gr (M := 50) (pc := 54) (n := 0) (ci := 1) (k := 0) (C := RX1) (T := TX1) (N := 4) (zd_eq zk50 (by decide +kernel : decode cX5_readFigure 54 = .ok (.getfield 82, 3))) rfl (by decide) (by decide) zin_1 (zl_f zo50 zw_122)) <|
  zcons (a := (57, zi_il 1 58)) (zs_il_n (M := 50) (pc := 57) (zd_eq zk50 (by decide +kernel : decode cX5_readFigure 57 = .ok (.iload_n 1, 1)))) <|
  zcons (a := (58, zi_il 2 59)) (zs_il_n (M := 50) (pc := 58) (zd_eq zk50 (by decide +kernel : decode cX5_readFigure 58 = .ok (.iload_n 2, 1)))) <|
  zcons (a := (59, zi_al 0 60)) (zs_al_n (M := 50) (pc := 59) (zd_eq zk50 (by decide +kernel : decode cX5_readFigure 59 = .ok (.aload_n 0, 1)))) <|
  zcons (a := (60, zi_gr 5 0 63)) (zs_gr (M := 50) (pc := 60) (n := 0) (ci := 5) (k := 0) (C := RX5) (T := TX5) (N := 6) (zd_eq zk50 (by decide +kernel : decode cX5_readFigure 60 = .ok (.getfield 12, 3))) rfl (by decide) (by decide) zin_5 (zl_f zo50 zw_187)) <|
  zcons (a := (63, zi_gi 4 5 66)) (zs_gi (M := 50) (pc := 63) (n := 0) (ci := 4) (k := 5) (C := RX4) (T := TX4) (N := 6) (zd_eq zk50 (by decide +kernel : decode cX5_readFigure 63 = .ok (.getfield 97, 3))) rfl (by decide) (by decide) zin_4 (zl_f zo50 zw_169)) <|
  zcons (a := (66, zi_cv 20 3 2 69 0)) (zs_cv (M := 50) (pc := 66) (M' := 20) (k := 3) (kd := 0) (ci := 2) (q := (RX2, TX2, 2)) (zd_eq zk50 (by decide +kernel : decode cX5_readFigure 66 = .ok (.invokevirtual 100, 3))) zWd20 (zl_m zo50 zy20 zw_398) (zl_i zy20 zw_399) (zl_e zy20 zw_400) (by decide) rfl (by rw [zo20])) <|
  zcons (a := (69, zi_al 0 70)) (zs_al_n (M := 50) (pc := 69) (zd_eq zk50 (by decide +kernel : decode cX5_readFigure 69 = .ok (.aload_n 0, 1)))) <|
  zcons (a := (70, zi_cv 53 0 5 73 1)) (zs_cv (M := 50) (pc := 70) (M' := 53) (k := 0) (kd := 1) (ci := 5) (q := (RX5, TX5, 6)) (zd_eq zk50 (by decide +kernel : decode cX5_readFigure 70 = .ok (.invokevirtual 104, 3))) zWd53 (zl_m zo50 zy53 zw_402) (zl_i zy53 zw_404) (zl_e zy53 zw_7) (by decide) rfl (by rw [zo53])) <|
  zcons (a := (73, zi_rz)) (zs_rz (M := 50) (pc := 73) (zd_eq zk50 (by decide +kernel : decode cX5_readFigure 73 = .ok (.ireturn, 1))) rfl) <| znil
theorem zS50 : ∀ pc, zm_Snd 50 pc (zm_lk2 zm_c50 pc) := zlk2 (zcons2 zS50_0 (zcons2 zS50_1 (znil2)))
theorem zS51_0 : ∀ q ∈ zm_c51_0, zm_Snd 51 q.1 q.2 :=
  zcons (a := (0, zi_al 0 1)) (zs_al_n (M := 51) (pc := 0) (zd_eq zk51 (by decide +kernel : decode cX5_readDay 0 = .ok (.aload_n 0, 1)))) <|
  zcons (a := (1, zi_k (.int 6) 3)) (zs_bipush (M := 51) (pc := 1) (zd_eq zk51 (by decide +kernel : decode cX5_readDay 1 = .ok (.bipush 6, 2))) (by decide)) <|
  zcons (a := (3, zi_cv 52 1 5 6 1)) (zs_cv (M := 51) (pc := 3) (M' := 52) (k := 1) (kd := 1) (ci := 5) (q := (RX5, TX5, 6)) (zd_eq zk51 (by decide +kernel : decode cX5_readDay 3 = .ok (.invokevirtual 94, 3))) zWd52 (zl_m zo51 zy52 zw_390) (zl_i zy52 zw_392) (zl_e zy52 zw_5) (by decide) rfl (by rw [zo52])) <|
  zcons (a := (6, zi_b1 (fun x => ¬ x = 0) 11 9)) (zs_ifne (M := 51) (pc := 6) (zd_eq zk51 (by decide +kernel : decode cX5_readDay 6 = .ok (.ifCond .ne 5, 3))) (by decide)) <|
  zcons (a := (9, zi_k (.int 0) 10)) (zs_iconst (M := 51) (pc := 9) (zd_eq zk51 (by decide +kernel : decode cX5_readDay 9 = .ok (.iconst 0, 1))) (by decide)) <|
  zcons (a := (10, zi_rz)) (zs_rz (M := 51) (pc := 10) (zd_eq zk51 (by decide +kernel : decode cX5_readDay 10 = .ok (.ireturn, 1))) rfl) <|
  zcons (a := (11, zi_al 0 12)) (zs_al_n (M := 51) (pc := 11) (zd_eq zk51 (by decide +kernel : decode cX5_readDay 11 = .ok (.aload_n 0, 1)))) <|
  zcons (a := (12, zi_gr 5 0 15)) (zs_gr (M := 51) (pc := 12) (n := 0) (ci := 5) (k := 0) (C := RX5) (T := TX5) (N := 6) (zd_eq zk51 (by decide +kernel : decode cX5_readDay 12 = .ok (.getfield 12, 3))) rfl (by decide) (by decide) zin_5 (zl_f zo51 zw_187)) <|
  zcons (a := (15, zi_gi 4 5 18)) (zs_gi (M := 51) (pc := 15) (n := 0) (ci := 4) (k := 5) (C := RX4) (T := TX4) (N := 6) (zd_eq zk51 (by decide +kernel : decode cX5_readDay 15 = .ok (.getfield 97, 3))) rfl (by decide) (by decide) zin_4 (zl_f zo51 zw_169)) <|
  zcons (a := (18, zi_is 1 19)) (zs_is_n (M := 51) (pc := 18) (zd_eq zk51 (by decide +kernel : decode cX5_readDay 18 = .ok (.istore_n 1, 1))) (by decide +kernel) (by decide +kernel)) <|
  zcons (a := (19, zi_al 0 20)) (zs_al_n (M := 51) (pc := 19) (zd_eq zk51 (by decide +kernel : decode cX5_readDay 19 = .ok (.aload_n 0, 1)))) <|
  zcons (a := (20, zi_gi 5 5 23)) (zs_gi (M := 51) (pc := 20) (n := 0) (ci := 5) (k := 5) (C := RX5) (T := TX5) (N := 6) (zd_eq zk51 (by decide +kernel : decode cX5_readDay 20 = .ok (.getfield 28, 3))) rfl (by decide) (by decide) zin_5 (zl_f zo51 zw_197)) <|
  zcons (a := (23, zi_il 1 24)) (zs_il_n (M := 51) (pc := 23) (zd_eq zk51 (by decide +kernel : decode cX5_readDay 23 = .ok (.iload_n 1, 1)))) <|
  zcons (a := (24, zi_bin (fun x y => x >>> (y &&& 31)) 25)) (zs_ishr (M := 51) (pc := 24) (zd_eq zk51 (by decide +kernel : decode cX5_readDay 24 = .ok (.ishr, 1)))) <|
  zcons (a := (25, zi_k (.int 1) 26)) (zs_iconst (M := 51) (pc := 25) (zd_eq zk51 (by decide +kernel : decode cX5_readDay 25 = .ok (.iconst 1, 1))) (by decide)) <|
  zcons (a := (26, zi_bin (· &&& ·) 27)) (zs_iand (M := 51) (pc := 26) (zd_eq zk51 (by decide +kernel : decode cX5_readDay 26 = .ok (.iand, 1)))) <|
  zcons (a := (27, zi_k (.int 1) 28)) (zs_iconst (M := 51) (pc := 27) (zd_eq zk51 (by decide +kernel : decode cX5_readDay 27 = .ok (.iconst 1, 1))) (by decide)) <|
  zcons (a := (28, zi_b2 (fun x y => ¬ x = y) 37 31)) (zs_icmpne (M := 51) (pc := 28) (zd_eq zk51 (by decide +kernel : decode cX5_readDay 28 = .ok (.if_icmp .ne 9, 3))) (by decide)) <|
  zcons (a := (31, zi_al 0 32)) (zs_al_n (M := 51) (pc := 31) (zd_eq zk51 (by decide +kernel : decode cX5_readDay 31 = .ok (.aload_n 0, 1)))) <|
  zcons (a := (32, zi_k (.int 4) 33)) (zs_iconst (M := 51) (pc := 32) (zd_eq zk51 (by decide +kernel : decode cX5_readDay 32 = .ok (.iconst 4, 1))) (by decide)) <|
  zcons (a := (33, zi_cv 55 1 5 36 1)) (zs_cv (M := 51) (pc := 33) (M' := 55) (k := 1) (kd := 1) (ci := 5) (q := (RX5, TX5, 6)) (zd_eq zk51 (by decide +kernel : decode cX5_readDay 33 = .ok (.invokevirtual 91, 3))) zWd55 (zl_m zo51 zy55 zw_386) (zl_i zy55 zw_388) (zl_e zy55 zw_4) (by decide) rfl (by rw [zo55])) <|
  zcons (a := (36, zi_rz)) (zs_rz (M := 51) (pc := 36) (zd_eq zk51 (by decide +kernel : decode cX5_readDay 36 = .ok (.ireturn, 1))) rfl) <|
  zcons (a := (37, zi_al 0 38)) (zs_al_n (M := 51) (pc := 37) (zd_eq zk51 (by decide +kernel : decode cX5_readDay 37 = .ok (.aload_n 0, 1)))) <|
  zcons (a := (38, zi_dup 39)) (zs_dup (M := 51) (pc := 38) (zd_eq zk51 (by decide +kernel : decode cX5_readDay 38 = .ok (.dup, 1)))) <| znil
theorem zS51_1 : ∀ q ∈ zm_c51_1, zm_Snd 51 q.1 q.2 :=
  zcons (a := (39, zi_gi 5 5 42)) (zs_gi (M := 51) (pc := 39) (n := 0) (ci := 5) (k := 5) (C := RX5) (T := TX5) (N := 6) (zd_eq zk51 (by decide +kernel : decode cX5_readDay 39 = .ok (.getfield 28, 3))) rfl (by decide) (by decide) zin_5 (zl_f zo51 zw_197)) <|
  zcons (a := (42, zi_k (.int 1) 43)) (zs_iconst (M := 51) (pc := 42) (zd_eq zk51 (by decide +kernel : decode cX5_readDay 42 = .ok (.iconst 1, 1))) (by decide)) <|
  zcons (a := (43, zi_il 1 44)) (zs_il_n (M := 51) (pc := 43) (zd_eq zk51 (by decide +kernel : decode cX5_readDay 43 = .ok (.iload_n 1, 1)))) <|
  zcons (a := (44, zi_bin (fun x y => x <<< (y &&& 31)) 45)) (zs_ishl (M := 51) (pc := 44) (zd_eq zk51 (by decide +kernel : decode cX5_readDay 44 = .ok (.ishl, 1)))) <|
  zcons (a := (45, zi_bin (· ||| ·) 46)) (zs_ior (M := 51) (pc := 45) (zd_eq zk51 (by decide +kernel : decode cX5_readDay 45 = .ok (.ior, 1)))) <|
  zcons (a := (46, zi_pf 5 5 49)) (zs_pf (M := 51) (pc := 46) (ci := 5) (k := 5) (C := RX5) (T := TX5) (N := 6) (ty0 := tyX5) (zd_eq zk51 (by decide +kernel : decode cX5_readDay 46 = .ok (.putfield 28, 3))) rfl (by decide) (by decide) zin_5 (zl_f zo51 zw_197) tyX5_ok nmX5 rfl (tyX5_ok 5 (by decide))) <|
  zcons (a := (49, zi_al 0 50)) (zs_al_n (M := 51) (pc := 49) (zd_eq zk51 (by decide +kernel : decode cX5_readDay 49 = .ok (.aload_n 0, 1)))) <|
  zcons (a := (50, zi_k (.int 9) 52)) (zs_bipush (M := 51) (pc := 50) (zd_eq zk51 (by decide +kernel : decode cX5_readDay 50 = .ok (.bipush 9, 2))) (by decide)) <|
  zcons (a := (52, zi_cv 52 1 5 55 1)) (zs_cv (M := 51) (pc := 52) (M' := 52) (k := 1) (kd := 1) (ci := 5) (q := (RX5, TX5, 6)) (zd_eq zk51 (by decide +kernel : decode cX5_readDay 52 = .ok (.invokevirtual 94, 3))) zWd52 (zl_m zo51 zy52 zw_390) (zl_i zy52 zw_392) (zl_e zy52 zw_5) (by decide) rfl (by rw [zo52])) <|
  zcons (a := (55, zi_b1 (fun x => ¬ x = 0) 60 58)) (zs_ifne (M := 51) (pc := 55) (zd_eq zk51 (by decide +kernel : decode cX5_readDay 55 = .ok (.ifCond .ne 5, 3))) (by decide)) <|
  zcons (a := (58, zi_k (.int 0) 59)) (zs_iconst (M := 51) (pc := 58) (zd_eq zk51 (by decide +kernel : decode cX5_readDay 58 = .ok (.iconst 0, 1))) (by decide)) <|
  zcons (a := (59, zi_rz)) (zs_rz (M := 51) (pc := 59) (zd_eq zk51 (by decide +kernel : decode cX5_readDay 59 = .ok (.ireturn, 1))) rfl) <|
  zcons (a := (60, zi_al 0 61)) (zs_al_n (M := 51) (pc := 60) (zd_eq zk51 (by decide +kernel : decode cX5_readDay 60 = .ok (.aload_n 0, 1)))) <|
  zcons (a := (61, zi_gr 5 1 64)) (zs_gr (M := 51) (pc := 61) (n := 0) (ci := 5) (k := 1) (C := RX5) (T := TX5) (N := 6) (zd_eq zk51 (by decide +kernel : decode cX5_readDay 61 = .ok (.getfield 21, 3))) rfl (by decide) (by decide) zin_5 (zl_f zo51 zw_189)) <|
  zcons (a := (64, zi_gr 1 1 67)) (zs_gr (M := 51) (pc := 64) (n := 0) (ci := 1) (k := 1) (C := RX1) (T := TX1) (N := 4) (zd_eq zk51 (by decide +kernel : decode cX5_readDay 64 = .ok (.getfield 107, 3))) rfl (by decide) (by decide) zin_1 (zl_f zo51 zw_125)) <|
  zcons (a := (67, zi_il 1 68)) (zs_il_n (M := 51) (pc := 67) (zd_eq zk51 (by decide +kernel : decode cX5_readDay 67 = .ok (.iload_n 1, 1)))) <|
  zcons (a := (68, zi_al 0 69)) (zs_al_n (M := 51) (pc := 68) (zd_eq zk51 (by decide +kernel : decode cX5_readDay 68 = .ok (.aload_n 0, 1)))) <|
  zcons (a := (69, zi_gr 5 0 72)) (zs_gr (M := 51) (pc := 69) (n := 0) (ci := 5) (k := 0) (C := RX5) (T := TX5) (N := 6) (zd_eq zk51 (by decide +kernel : decode cX5_readDay 69 = .ok (.getfield 12, 3))) rfl (by decide) (by decide) zin_5 (zl_f zo51 zw_187)) <|
  zcons (a := (72, zi_gi 4 5 75)) (zs_gi (M := 51) (pc := 72) (n := 0) (ci := 4) (k := 5) (C := RX4) (T := TX4) (N := 6) (zd_eq zk51 (by decide +kernel : decode cX5_readDay 72 = .ok (.getfield 97, 3))) rfl (by decide) (by decide) zin_4 (zl_f zo51 zw_169)) <|
  zcons (a := (75, zi_ast 0 (fun x => x) 76)) (zs_iast (M := 51) (pc := 75) (zd_eq zk51 (by decide +kernel : decode cX5_readDay 75 = .ok (.iastore, 1)))) <|
  zcons (a := (76, zi_al 0 77)) (zs_al_n (M := 51) (pc := 76) (zd_eq zk51 (by decide +kernel : decode cX5_readDay 76 = .ok (.aload_n 0, 1)))) <|
  zcons (a := (77, zi_k (.int 8) 79)) (zs_bipush (M := 51) (pc := 77) (zd_eq zk51 (by decide +kernel : decode cX5_readDay 77 = .ok (.bipush 8, 2))) (by decide)) <|
  zcons (a := (79, zi_cv 52 1 5 82 1)) (zs_cv (M := 51) (pc := 79) (M' := 52) (k := 1) (kd := 1) (ci := 5) (q := (RX5, TX5, 6)) (zd_eq zk51 (by decide +kernel : decode cX5_readDay 79 = .ok (.invokevirtual 94, 3))) zWd52 (zl_m zo51 zy52 zw_390) (zl_i zy52 zw_392) (zl_e zy52 zw_5) (by decide) rfl (by rw [zo52])) <|
  zcons (a := (82, zi_b1 (fun x => ¬ x = 0) 87 85)) (zs_ifne (M := 51) (pc := 82) (zd_eq zk51 (by decide +kernel : decode cX5_readDay 82 = .ok (.ifCond .ne 5, 3))) (by decide)) <| znil
theorem zS51_2 : ∀ q ∈ zm_c51_2, zm_Snd 51 q.1 q.2 :=
  zcons (a := (85, zi_k (.int 0) 86)) (zs_iconst (M := 51) (pc := 85) (zd_eq zk51 (by decide +kernel : decode cX5_readDay 85 = .ok (.iconst 0, 1))) (by decide)) <|
  zcons (a := (86, zi_rz)) (zs_rz (M := 51) (pc := 86) (zd_eq zk51 (by decide +kernel : decode cX5_readDay 86 = .ok (.ireturn, 1))) rfl) <|
  zcons (a := (87, zi_al 0 88)) (zs_al_n (M := 51) (pc := 87) (zd_eq zk51 (by decide +kernel : decode cX5_readDay 87 = .ok (.aload_n 0, 1)))) <|
  zcons (a := (88, zi_gr 5 1 91)) (zs_gr (M := 51) (pc := 88) (n := 0) (ci := 5) (k := 1) (C := RX5) (T := TX5) (N := 6) (zd_eq zk51 (by decide +kernel : decode cX5_readDay 88 = .ok (.getfield 21, 3))) rfl (by decide) (by decide) zin_5 (zl_f zo51 zw_189)) <|
  zcons (a := (91, zi_gr 1 2 94)) (zs_gr (M := 51) (pc := 91) (n := 0) (ci := 1) (k := 2) (C := RX1) (T := TX1) (N := 4) (zd_eq zk51 (by decide +kernel : decode cX5_readDay 91 = .ok (.getfield 111, 3))) rfl (by decide) (by decide) zin_1 (zl_f zo51 zw_128)) <|
  zcons (a := (94, zi_il 1 95)) (zs_il_n (M := 51) (pc := 94) (zd_eq zk51 (by decide +kernel : decode cX5_readDay 94 = .ok (.iload_n 1, 1)))) <|
  zcons (a := (95, zi_al 0 96)) (zs_al_n (M := 51) (pc := 95) (zd_eq zk51 (by decide +kernel : decode cX5_readDay 95 = .ok (.aload_n 0, 1)))) <|
  zcons (a := (96, zi_gr 5 0 99)) (zs_gr (M := 51) (pc := 96) (n := 0) (ci := 5) (k := 0) (C := RX5) (T := TX5) (N := 6) (zd_eq zk51 (by decide +kernel : decode cX5_readDay 96 = .ok (.getfield 12, 3))) rfl (by decide) (by decide) zin_5 (zl_f zo51 zw_187)) <|
  zcons (a := (99, zi_gi 4 5 102)) (zs_gi (M := 51) (pc := 99) (n := 0) (ci := 4) (k := 5) (C := RX4) (T := TX4) (N := 6) (zd_eq zk51 (by decide +kernel : decode cX5_readDay 99 = .ok (.getfield 97, 3))) rfl (by decide) (by decide) zin_4 (zl_f zo51 zw_169)) <|
  zcons (a := (102, zi_ast 0 (fun x => x) 103)) (zs_iast (M := 51) (pc := 102) (zd_eq zk51 (by decide +kernel : decode cX5_readDay 102 = .ok (.iastore, 1)))) <|
  zcons (a := (103, zi_al 0 104)) (zs_al_n (M := 51) (pc := 103) (zd_eq zk51 (by decide +kernel : decode cX5_readDay 103 = .ok (.aload_n 0, 1)))) <|
  zcons (a := (104, zi_cv 53 0 5 107 1)) (zs_cv (M := 51) (pc := 104) (M' := 53) (k := 0) (kd := 1) (ci := 5) (q := (RX5, TX5, 6)) (zd_eq zk51 (by decide +kernel : decode cX5_readDay 104 = .ok (.invokevirtual 104, 3))) zWd53 (zl_m zo51 zy53 zw_402) (zl_i zy53 zw_404) (zl_e zy53 zw_7) (by decide) rfl (by rw [zo53])) <|
  zcons (a := (107, zi_rz)) (zs_rz (M := 51) (pc := 107) (zd_eq zk51 (by decide +kernel : decode cX5_readDay 107 = .ok (.ireturn, 1))) rfl) <| znil
theorem zS51 : ∀ pc, zm_Snd 51 pc (zm_lk2 zm_c51 pc) := zlk2 (zcons2 zS51_0 (zcons2 zS51_1 (zcons2 zS51_2 (znil2))))
theorem zS52_0 : ∀ q ∈ zm_c52_0, zm_Snd 52 q.1 q.2 :=
  zcons (a := (0, zi_al 0 1)) (zs_al_n (M := 52) (pc := 0) (zd_eq zk52 (by decide +kernel : decode cX5_takesNumber 0 = .ok (.aload_n 0, 1)))) <|
  zcons (a := (1, zi_gr 5 0 4)) (zs_gr (M := 52) (pc := 1) (n := 0) (ci := 5) (k := 0) (C := RX5) (T := TX5) (N := 6) (zd_eq zk52 (by decide +kernel : decode cX5_takesNumber 1 = .ok (.getfield 12, 3))) rfl (by decide) (by decide) zin_5 (zl_f zo52 zw_187)) <|
  zcons (a := (4, zi_cv 42 0 4 7 0)) (zs_cv (M := 52) (pc := 4) (M' := 42) (k := 0) (kd := 0) (ci := 4) (q := (RX4, TX4, 6)) (zd_eq zk52 (by decide +kernel : decode cX5_takesNumber 4 = .ok (.invokevirtual 44, 3))) zWd42 (zl_m zo52 zy42 zw_307) (zl_i zy42 zw_308) (zl_e zy42 zw_309) (by decide) rfl (by rw [zo42])) <|
  zcons (a := (7, zi_al 0 8)) (zs_al_n (M := 52) (pc := 7) (zd_eq zk52 (by decide +kernel : decode cX5_takesNumber 7 = .ok (.aload_n 0, 1)))) <|
  zcons (a := (8, zi_gr 5 0 11)) (zs_gr (M := 52) (pc := 8) (n := 0) (ci := 5) (k := 0) (C := RX5) (T := TX5) (N := 6) (zd_eq zk52 (by decide +kernel : decode cX5_takesNumber 8 = .ok (.getfield 12, 3))) rfl (by decide) (by decide) zin_5 (zl_f zo52 zw_187)) <|
  zcons (a := (11, zi_gi 4 3 14)) (zs_gi (M := 52) (pc := 11) (n := 0) (ci := 4) (k := 3) (C := RX4) (T := TX4) (N := 6) (zd_eq zk52 (by decide +kernel : decode cX5_takesNumber 11 = .ok (.getfield 47, 3))) rfl (by decide) (by decide) zin_4 (zl_f zo52 zw_165)) <|
  zcons (a := (14, zi_k (.int 1) 15)) (zs_iconst (M := 52) (pc := 14) (zd_eq zk52 (by decide +kernel : decode cX5_takesNumber 14 = .ok (.iconst 1, 1))) (by decide)) <|
  zcons (a := (15, zi_b2 (fun x y => x = y) 23 18)) (zs_icmpeq (M := 52) (pc := 15) (zd_eq zk52 (by decide +kernel : decode cX5_takesNumber 15 = .ok (.if_icmp .eq 8, 3))) (by decide)) <|
  zcons (a := (18, zi_al 0 19)) (zs_al_n (M := 52) (pc := 18) (zd_eq zk52 (by decide +kernel : decode cX5_takesNumber 18 = .ok (.aload_n 0, 1)))) <|
  zcons (a := (19, zi_cv 54 0 5 22 1)) (zs_cv (M := 52) (pc := 19) (M' := 54) (k := 0) (kd := 1) (ci := 5) (q := (RX5, TX5, 6)) (zd_eq zk52 (by decide +kernel : decode cX5_takesNumber 19 = .ok (.invokevirtual 71, 3))) zWd54 (zl_m zo52 zy54 zw_394) (zl_i zy54 zw_396) (zl_e zy54 zw_6) (by decide) rfl (by rw [zo54])) <|
  zcons (a := (22, zi_rz)) (zs_rz (M := 52) (pc := 22) (zd_eq zk52 (by decide +kernel : decode cX5_takesNumber 22 = .ok (.ireturn, 1))) rfl) <|
  zcons (a := (23, zi_al 0 24)) (zs_al_n (M := 52) (pc := 23) (zd_eq zk52 (by decide +kernel : decode cX5_takesNumber 23 = .ok (.aload_n 0, 1)))) <|
  zcons (a := (24, zi_gr 5 0 27)) (zs_gr (M := 52) (pc := 24) (n := 0) (ci := 5) (k := 0) (C := RX5) (T := TX5) (N := 6) (zd_eq zk52 (by decide +kernel : decode cX5_takesNumber 24 = .ok (.getfield 12, 3))) rfl (by decide) (by decide) zin_5 (zl_f zo52 zw_187)) <|
  zcons (a := (27, zi_gi 4 5 30)) (zs_gi (M := 52) (pc := 27) (n := 0) (ci := 4) (k := 5) (C := RX4) (T := TX4) (N := 6) (zd_eq zk52 (by decide +kernel : decode cX5_takesNumber 27 = .ok (.getfield 97, 3))) rfl (by decide) (by decide) zin_4 (zl_f zo52 zw_169)) <|
  zcons (a := (30, zi_il 1 31)) (zs_il_n (M := 52) (pc := 30) (zd_eq zk52 (by decide +kernel : decode cX5_takesNumber 30 = .ok (.iload_n 1, 1)))) <|
  zcons (a := (31, zi_b2 (fun x y => x ≤ y) 42 34)) (zs_icmple (M := 52) (pc := 31) (zd_eq zk52 (by decide +kernel : decode cX5_takesNumber 31 = .ok (.if_icmp .le 11, 3))) (by decide)) <|
  zcons (a := (34, zi_al 0 35)) (zs_al_n (M := 52) (pc := 34) (zd_eq zk52 (by decide +kernel : decode cX5_takesNumber 34 = .ok (.aload_n 0, 1)))) <|
  zcons (a := (35, zi_k (.int 3) 36)) (zs_iconst (M := 52) (pc := 35) (zd_eq zk52 (by decide +kernel : decode cX5_takesNumber 35 = .ok (.iconst 3, 1))) (by decide)) <|
  zcons (a := (36, zi_cv 55 1 5 39 1)) (zs_cv (M := 52) (pc := 36) (M' := 55) (k := 1) (kd := 1) (ci := 5) (q := (RX5, TX5, 6)) (zd_eq zk52 (by decide +kernel : decode cX5_takesNumber 36 = .ok (.invokevirtual 91, 3))) zWd55 (zl_m zo52 zy55 zw_386) (zl_i zy55 zw_388) (zl_e zy55 zw_4) (by decide) rfl (by rw [zo55])) <|
  zcons (a := (39, zi_b1 (fun x => x = 0) 46 42)) (zs_ifeq (M := 52) (pc := 39) (zd_eq zk52 (by decide +kernel : decode cX5_takesNumber 39 = .ok (.ifCond .eq 7, 3))) (by decide)) <|
  zcons (a := (42, zi_k (.int 1) 43)) (zs_iconst (M := 52) (pc := 42) (zd_eq zk52 (by decide +kernel : decode cX5_takesNumber 42 = .ok (.iconst 1, 1))) (by decide)) <|
  zcons (a := (43, zi_go 47)) (zs_goto (M := 52) (pc := 43) (zd_eq zk52 (by decide +kernel : decode cX5_takesNumber 43 = .ok (.goto 4, 3))) (by decide)) <|
  zcons (a := (46, zi_k (.int 0) 47)) (zs_iconst (M := 52) (pc := 46) (zd_eq zk52 (by decide +kernel : decode cX5_takesNumber 46 = .ok (.iconst 0, 1))) (by decide)) <|
  zcons (a := (47, zi_rz)) (zs_rz (M := 52) (pc := 47) (zd_eq zk52 (by decide +kernel : decode cX5_takesNumber 47 = .ok (.ireturn, 1))) rfl) <| znil
theorem zS52 : ∀ pc, zm_Snd 52 pc (zm_lk2 zm_c52 pc) := zlk2 (zcons2 zS52_0 (znil2))
theorem zS53_0 : ∀ q ∈ zm_c53_0, zm_Snd 53 q.1 q.2 :=
  zcons (a := (0, zi_al 0 1)) (zs_al_n (M := 53) (pc := 0) (zd_eq zk53 (by decide +kernel : decode cX5_takesSign 0 = .ok (.aload_n 0, 1)))) <|
  zcons (a := (1, zi_gr 5 0 4)) (zs_gr (M := 53) (pc := 1) (n := 0) (ci := 5) (k := 0) (C := RX5) (T := TX5) (N := 6) (zd_eq zk53 (by decide +kernel : decode cX5_takesSign 1 = .ok (.getfield 12, 3))) rfl (by decide) (by decide) zin_5 (zl_f zo53 zw_187)) <|
  zcons (a := (4, zi_cv 42 0 4 7 0)) (zs_cv (M := 53) (pc := 4) (M' := 42) (k := 0) (kd := 0) (ci := 4) (q := (RX4, TX4, 6)) (zd_eq zk53 (by decide +kernel : decode cX5_takesSign 4 = .ok (.invokevirtual 44, 3))) zWd42 (zl_m zo53 zy42 zw_307) (zl_i zy42 zw_308) (zl_e zy42 zw_309) (by decide) rfl (by rw [zo42])) <|
  zcons (a := (7, zi_al 0 8)) (zs_al_n (M := 53) (pc := 7) (zd_eq zk53 (by decide +kernel : decode cX5_takesSign 7 = .ok (.aload_n 0, 1)))) <|
  zcons (a := (8, zi_gr 5 0 11)) (zs_gr (M := 53) (pc := 8) (n := 0) (ci := 5) (k := 0) (C := RX5) (T := TX5) (N := 6) (zd_eq zk53 (by decide +kernel : decode cX5_takesSign 8 = .ok (.getfield 12, 3))) rfl (by decide) (by decide) zin_5 (zl_f zo53 zw_187)) <|
  zcons (a := (11, zi_gi 4 3 14)) (zs_gi (M := 53) (pc := 11) (n := 0) (ci := 4) (k := 3) (C := RX4) (T := TX4) (N := 6) (zd_eq zk53 (by decide +kernel : decode cX5_takesSign 11 = .ok (.getfield 47, 3))) rfl (by decide) (by decide) zin_4 (zl_f zo53 zw_165)) <|
  zcons (a := (14, zi_k (.int 2) 15)) (zs_iconst (M := 53) (pc := 14) (zd_eq zk53 (by decide +kernel : decode cX5_takesSign 14 = .ok (.iconst 2, 1))) (by decide)) <|
  zcons (a := (15, zi_b2 (fun x y => x = y) 25 18)) (zs_icmpeq (M := 53) (pc := 15) (zd_eq zk53 (by decide +kernel : decode cX5_takesSign 15 = .ok (.if_icmp .eq 10, 3))) (by decide)) <|
  zcons (a := (18, zi_al 0 19)) (zs_al_n (M := 53) (pc := 18) (zd_eq zk53 (by decide +kernel : decode cX5_takesSign 18 = .ok (.aload_n 0, 1)))) <|
  zcons (a := (19, zi_cv 54 0 5 22 1)) (zs_cv (M := 53) (pc := 19) (M' := 54) (k := 0) (kd := 1) (ci := 5) (q := (RX5, TX5, 6)) (zd_eq zk53 (by decide +kernel : decode cX5_takesSign 19 = .ok (.invokevirtual 71, 3))) zWd54 (zl_m zo53 zy54 zw_394) (zl_i zy54 zw_396) (zl_e zy54 zw_6) (by decide) rfl (by rw [zo54])) <|
  zcons (a := (22, zi_b1 (fun x => x = 0) 29 25)) (zs_ifeq (M := 53) (pc := 22) (zd_eq zk53 (by decide +kernel : decode cX5_takesSign 22 = .ok (.ifCond .eq 7, 3))) (by decide)) <|
  zcons (a := (25, zi_k (.int 1) 26)) (zs_iconst (M := 53) (pc := 25) (zd_eq zk53 (by decide +kernel : decode cX5_takesSign 25 = .ok (.iconst 1, 1))) (by decide)) <|
  zcons (a := (26, zi_go 30)) (zs_goto (M := 53) (pc := 26) (zd_eq zk53 (by decide +kernel : decode cX5_takesSign 26 = .ok (.goto 4, 3))) (by decide)) <|
  zcons (a := (29, zi_k (.int 0) 30)) (zs_iconst (M := 53) (pc := 29) (zd_eq zk53 (by decide +kernel : decode cX5_takesSign 29 = .ok (.iconst 0, 1))) (by decide)) <|
  zcons (a := (30, zi_rz)) (zs_rz (M := 53) (pc := 30) (zd_eq zk53 (by decide +kernel : decode cX5_takesSign 30 = .ok (.ireturn, 1))) rfl) <| znil
theorem zS53 : ∀ pc, zm_Snd 53 pc (zm_lk2 zm_c53 pc) := zlk2 (zcons2 zS53_0 (znil2))
theorem zS54_0 : ∀ q ∈ zm_c54_0, zm_Snd 54 q.1 q.2 :=
  zcons (a := (0, zi_al 0 1)) (zs_al_n (M := 54) (pc := 0) (zd_eq zk54 (by decide +kernel : decode cX5_refuseToken 0 = .ok (.aload_n 0, 1)))) <|
  zcons (a := (1, zi_al 0 2)) (zs_al_n (M := 54) (pc := 1) (zd_eq zk54 (by decide +kernel : decode cX5_refuseToken 1 = .ok (.aload_n 0, 1)))) <|
  zcons (a := (2, zi_gr 5 0 5)) (zs_gr (M := 54) (pc := 2) (n := 0) (ci := 5) (k := 0) (C := RX5) (T := TX5) (N := 6) (zd_eq zk54 (by decide +kernel : decode cX5_refuseToken 2 = .ok (.getfield 12, 3))) rfl (by decide) (by decide) zin_5 (zl_f zo54 zw_187)) <|
  zcons (a := (5, zi_gi 4 3 8)) (zs_gi (M := 54) (pc := 5) (n := 0) (ci := 4) (k := 3) (C := RX4) (T := TX4) (N := 6) (zd_eq zk54 (by decide +kernel : decode cX5_refuseToken 5 = .ok (.getfield 47, 3))) rfl (by decide) (by decide) zin_4 (zl_f zo54 zw_165)) <|
  zcons (a := (8, zi_k (.int 3) 9)) (zs_iconst (M := 54) (pc := 8) (zd_eq zk54 (by decide +kernel : decode cX5_refuseToken 8 = .ok (.iconst 3, 1))) (by decide)) <|
  zcons (a := (9, zi_b2 (fun x y => ¬ x = y) 16 12)) (zs_icmpne (M := 54) (pc := 9) (zd_eq zk54 (by decide +kernel : decode cX5_refuseToken 9 = .ok (.if_icmp .ne 7, 3))) (by decide)) <|
  zcons (a := (12, zi_k (.int 1) 13)) (zs_iconst (M := 54) (pc := 12) (zd_eq zk54 (by decide +kernel : decode cX5_refuseToken 12 = .ok (.iconst 1, 1))) (by decide)) <|
  zcons (a := (13, zi_go 17)) (zs_goto (M := 54) (pc := 13) (zd_eq zk54 (by decide +kernel : decode cX5_refuseToken 13 = .ok (.goto 4, 3))) (by decide)) <|
  zcons (a := (16, zi_k (.int 2) 17)) (zs_iconst (M := 54) (pc := 16) (zd_eq zk54 (by decide +kernel : decode cX5_refuseToken 16 = .ok (.iconst 2, 1))) (by decide)) <|
  zcons (a := (17, zi_cv 55 1 5 20 1)) (zs_cv (M := 54) (pc := 17) (M' := 55) (k := 1) (kd := 1) (ci := 5) (q := (RX5, TX5, 6)) (zd_eq zk54 (by decide +kernel : decode cX5_refuseToken 17 = .ok (.invokevirtual 91, 3))) zWd55 (zl_m zo54 zy55 zw_386) (zl_i zy55 zw_388) (zl_e zy55 zw_4) (by decide) rfl (by rw [zo55])) <|
  zcons (a := (20, zi_rz)) (zs_rz (M := 54) (pc := 20) (zd_eq zk54 (by decide +kernel : decode cX5_refuseToken 20 = .ok (.ireturn, 1))) rfl) <| znil
theorem zS54 : ∀ pc, zm_Snd 54 pc (zm_lk2 zm_c54 pc) := zlk2 (zcons2 zS54_0 (znil2))
theorem zS55_0 : ∀ q ∈ zm_c55_0, zm_Snd 55 q.1 q.2 :=
  zcons (a := (0, zi_al 0 1)) (zs_al_n (M := 55) (pc := 0) (zd_eq zk55 (by decide +kernel : decode cX5_refuse 0 = .ok (.aload_n 0, 1)))) <|
  zcons (a := (1, zi_il 1 2)) (zs_il_n (M := 55) (pc := 1) (zd_eq zk55 (by decide +kernel : decode cX5_refuse 1 = .ok (.iload_n 1, 1)))) <|
  zcons (a := (2, zi_pf 5 3 5)) (zs_pf (M := 55) (pc := 2) (ci := 5) (k := 3) (C := RX5) (T := TX5) (N := 6) (ty0 := tyX5) (zd_eq zk55 (by decide +kernel : decode cX5_refuse 2 = .ok (.putfield 35, 3))) rfl (by decide) (by decide) zin_5 (zl_f zo55 zw_193) tyX5_ok nmX5 rfl (tyX5_ok 3 (by decide))) <|
  zcons (a := (5, zi_al 0 6)) (zs_al_n (M := 55) (pc := 5) (zd_eq zk55 (by decide +kernel : decode cX5_refuse 5 = .ok (.aload_n 0, 1)))) <|
  zcons (a := (6, zi_al 0 7)) (zs_al_n (M := 55) (pc := 6) (zd_eq zk55 (by decide +kernel : decode cX5_refuse 6 = .ok (.aload_n 0, 1)))) <|
  zcons (a := (7, zi_gr 5 0 10)) (zs_gr (M := 55) (pc := 7) (n := 0) (ci := 5) (k := 0) (C := RX5) (T := TX5) (N := 6) (zd_eq zk55 (by decide +kernel : decode cX5_refuse 7 = .ok (.getfield 12, 3))) rfl (by decide) (by decide) zin_5 (zl_f zo55 zw_187)) <|
  zcons (a := (10, zi_gi 4 4 13)) (zs_gi (M := 55) (pc := 10) (n := 0) (ci := 4) (k := 4) (C := RX4) (T := TX4) (N := 6) (zd_eq zk55 (by decide +kernel : decode cX5_refuse 10 = .ok (.getfield 114, 3))) rfl (by decide) (by decide) zin_4 (zl_f zo55 zw_168)) <|
  zcons (a := (13, zi_pf 5 4 16)) (zs_pf (M := 55) (pc := 13) (ci := 5) (k := 4) (C := RX5) (T := TX5) (N := 6) (ty0 := tyX5) (zd_eq zk55 (by decide +kernel : decode cX5_refuse 13 = .ok (.putfield 38, 3))) rfl (by decide) (by decide) zin_5 (zl_f zo55 zw_195) tyX5_ok nmX5 rfl (tyX5_ok 4 (by decide))) <|
  zcons (a := (16, zi_k (.int 0) 17)) (zs_iconst (M := 55) (pc := 16) (zd_eq zk55 (by decide +kernel : decode cX5_refuse 16 = .ok (.iconst 0, 1))) (by decide)) <|
  zcons (a := (17, zi_rz)) (zs_rz (M := 55) (pc := 17) (zd_eq zk55 (by decide +kernel : decode cX5_refuse 17 = .ok (.ireturn, 1))) rfl) <| znil
theorem zS55 : ∀ pc, zm_Snd 55 pc (zm_lk2 zm_c55 pc) := zlk2 (zcons2 zS55_0 (znil2))
theorem zS56_0 : ∀ q ∈ zm_c56_0, zm_Snd 56 q.1 q.2 :=
  zcons (a := (0, zi_al 0 1)) (zs_al_n (M := 56) (pc := 0) (zd_eq zk56 (by decide +kernel : decode cX3_init 0 = .ok (.aload_n 0, 1)))) <|
  zcons (a := (1, zi_oi 4)) (zs_oi (M := 56) (pc := 1) (zd_eq zk56 (by decide +kernel : decode cX3_init 1 = .ok (.invokespecial 3, 3))) (zl_mo zo56 zw_218) zw_71 zw_72) <|
  zcons (a := (4, zi_al 0 5)) (zs_al_n (M := 56) (pc := 4) (zd_eq zk56 (by decide +kernel : decode cX3_init 4 = .ok (.aload_n 0, 1)))) <|
  zcons (a := (5, zi_k (.int 40) 7)) (zs_bipush (M := 56) (pc := 5) (zd_eq zk56 (by decide +kernel : decode cX3_init 5 = .ok (.bipush 40, 2))) (by decide)) <|
  zcons (a := (7, zi_na 0 9)) (zs_na (M := 56) (pc := 7) (t := 0) (at_ := .int) (zd_eq zk56 (by decide +kernel : decode cX3_init 7 = .ok (.newarray .int, 2))) rfl zw_141 rfl (by decide)) <|
  zcons (a := (9, zi_pr 3 0 12)) (zs_pr (M := 56) (pc := 9) (ci := 3) (k := 0) (C := RX3) (T := TX3) (N := 3) (ty0 := tyX3) (zd_eq zk56 (by decide +kernel : decode cX3_init 9 = .ok (.putfield 9, 3))) rfl (by decide) (by decide) zin_3 (zl_f zo56 zw_219) tyX3_ok nmX3 rfl (by rw [zy56]; rfl) (by rw [zo56]; rfl) (tyX3_ok 0 (by decide)) (fun _ => rfl) (fun _ => rfl)) <|
  zcons (a := (12, zi_al 0 13)) (zs_al_n (M := 56) (pc := 12) (zd_eq zk56 (by decide +kernel : decode cX3_init 12 = .ok (.aload_n 0, 1)))) <|
  zcons (a := (13, zi_k (.int (-1)) 14)) (zs_iconst (M := 56) (pc := 13) (zd_eq zk56 (by decide +kernel : decode cX3_init 13 = .ok (.iconst (-1), 1))) (by decide)) <|
  zcons (a := (14, zi_pf 3 1 17)) (zs_pf (M := 56) (pc := 14) (ci := 3) (k := 1) (C := RX3) (T := TX3) (N := 3) (ty0 := tyX3) (zd_eq zk56 (by decide +kernel : decode cX3_init 14 = .ok (.putfield 15, 3))) rfl (by decide) (by decide) zin_3 (zl_f zo56 zw_221) tyX3_ok nmX3 rfl (tyX3_ok 1 (by decide))) <|
  zcons (a := (17, zi_rv)) (zs_rv (M := 56) (pc := 17) (zd_eq zk56 (by decide +kernel : decode cX3_init 17 = .ok (.return_, 1))) rfl) <| znil
theorem zS56 : ∀ pc, zm_Snd 56 pc (zm_lk2 zm_c56 pc) := zlk2 (zcons2 zS56_0 (znil2))
theorem zS57_0 : ∀ q ∈ zm_c57_0, zm_Snd 57 q.1 q.2 :=
  zcons (a := (0, zi_al 0 1)) (zs_al_n (M := 57) (pc := 0) (zd_eq zk57 (by decide +kernel : decode cX3_renew 0 = .ok (.aload_n 0, 1)))) <|
  zcons (a := (1, zi_il 1 2)) (zs_il_n (M := 57) (pc := 1) (zd_eq zk57 (by decide +kernel : decode cX3_renew 1 = .ok (.iload_n 1, 1)))) <|
  zcons (a := (2, zi_pf 3 1 5)) (zs_pf (M := 57) (pc := 2) (ci := 3) (k := 1) (C := RX3) (T := TX3) (N := 3) (ty0 := tyX3) (zd_eq zk57 (by decide +kernel : decode cX3_renew 2 = .ok (.putfield 15, 3))) rfl (by decide) (by decide) zin_3 (zl_f zo57 zw_221) tyX3_ok nmX3 rfl (tyX3_ok 1 (by decide))) <|
  zcons (a := (5, zi_al 0 6)) (zs_al_n (M := 57) (pc := 5) (zd_eq zk57 (by decide +kernel : decode cX3_renew 5 = .ok (.aload_n 0, 1)))) <|
  zcons (a := (6, zi_il 2 7)) (zs_il_n (M := 57) (pc := 6) (zd_eq zk57 (by decide +kernel : decode cX3_renew 6 = .ok (.iload_n 2, 1)))) <|
  zcons (a := (7, zi_pf 3 2 10)) (zs_pf (M := 57) (pc := 7) (ci := 3) (k := 2) (C := RX3) (T := TX3) (N := 3) (ty0 := tyX3) (zd_eq zk57 (by decide +kernel : decode cX3_renew 7 = .ok (.putfield 19, 3))) rfl (by decide) (by decide) zin_3 (zl_f zo57 zw_223) tyX3_ok nmX3 rfl (tyX3_ok 2 (by decide))) <|
  zcons (a := (10, zi_al 0 11)) (zs_al_n (M := 57) (pc := 10) (zd_eq zk57 (by decide +kernel : decode cX3_renew 10 = .ok (.aload_n 0, 1)))) <|
  zcons (a := (11, zi_gr 3 0 14)) (zs_gr (M := 57) (pc := 11) (n := 0) (ci := 3) (k := 0) (C := RX3) (T := TX3) (N := 3) (zd_eq zk57 (by decide +kernel : decode cX3_renew 11 = .ok (.getfield 9, 3))) rfl (by decide) (by decide) zin_3 (zl_f zo57 zw_219)) <|
  zcons (a := (14, zi_k (.int 0) 15)) (zs_iconst (M := 57) (pc := 14) (zd_eq zk57 (by decide +kernel : decode cX3_renew 14 = .ok (.iconst 0, 1))) (by decide)) <|
  zcons (a := (15, zi_cs 1 2 18 0)) (zs_cs (M := 57) (pc := 15) (M' := 1) (k := 2) (kd := 0) (zd_eq zk57 (by decide +kernel : decode cX3_renew 15 = .ok (.invokestatic 22, 3))) zWd1 (zl_m zo57 zy1 zw_757) (zl_s zy1 zw_119)) <|
  zcons (a := (18, zi_rv)) (zs_rv (M := 57) (pc := 18) (zd_eq zk57 (by decide +kernel : decode cX3_renew 18 = .ok (.return_, 1))) rfl) <| znil
theorem zS57 : ∀ pc, zm_Snd 57 pc (zm_lk2 zm_c57 pc) := zlk2 (zcons2 zS57_0 (znil2))
theorem zS58_0 : ∀ q ∈ zm_c58_0, zm_Snd 58 q.1 q.2 :=
  zcons (a := (0, zi_al 0 1)) (zs_al_n (M := 58) (pc := 0) (zd_eq zk58 (by decide +kernel : decode cX3_put 0 = .ok (.aload_n 0, 1)))) <|
  zcons (a := (1, zi_gi 3 1 4)) (zs_gi (M := 58) (pc := 1) (n := 0) (ci := 3) (k := 1) (C := RX3) (T := TX3) (N := 3) (zd_eq zk58 (by decide +kernel : decode cX3_put 1 = .ok (.getfield 15, 3))) rfl (by decide) (by decide) zin_3 (zl_f zo58 zw_221)) <|
  zcons (a := (4, zi_b1 (fun x => ¬ x = 0) 18 7)) (zs_ifne (M := 58) (pc := 4) (zd_eq zk58 (by decide +kernel : decode cX3_put 4 = .ok (.ifCond .ne 14, 3))) (by decide)) <|
  zcons (a := (7, zi_al 0 8)) (zs_al_n (M := 58) (pc := 7) (zd_eq zk58 (by decide +kernel : decode cX3_put 7 = .ok (.aload_n 0, 1)))) <|
  zcons (a := (8, zi_gr 3 0 11)) (zs_gr (M := 58) (pc := 8) (n := 0) (ci := 3) (k := 0) (C := RX3) (T := TX3) (N := 3) (zd_eq zk58 (by decide +kernel : decode cX3_put 8 = .ok (.getfield 9, 3))) rfl (by decide) (by decide) zin_3 (zl_f zo58 zw_219)) <|
  zcons (a := (11, zi_il 1 12)) (zs_il_n (M := 58) (pc := 11) (zd_eq zk58 (by decide +kernel : decode cX3_put 11 = .ok (.iload_n 1, 1)))) <|
  zcons (a := (12, zi_il 2 13)) (zs_il_n (M := 58) (pc := 12) (zd_eq zk58 (by decide +kernel : decode cX3_put 12 = .ok (.iload_n 2, 1)))) <|
  zcons (a := (13, zi_un (fun x => x.toInt8.toInt32) 14)) (zs_i2b (M := 58) (pc := 13) (zd_eq zk58 (by decide +kernel : decode cX3_put 13 = .ok (.i2b, 1)))) <|
  zcons (a := (14, zi_ast 0 (fun x => x) 15)) (zs_iast (M := 58) (pc := 14) (zd_eq zk58 (by decide +kernel : decode cX3_put 14 = .ok (.iastore, 1)))) <|
  zcons (a := (15, zi_go 44)) (zs_goto (M := 58) (pc := 15) (zd_eq zk58 (by decide +kernel : decode cX3_put 15 = .ok (.goto 29, 3))) (by decide)) <|
  zcons (a := (18, zi_al 0 19)) (zs_al_n (M := 58) (pc := 18) (zd_eq zk58 (by decide +kernel : decode cX3_put 18 = .ok (.aload_n 0, 1)))) <|
  zcons (a := (19, zi_gi 3 1 22)) (zs_gi (M := 58) (pc := 19) (n := 0) (ci := 3) (k := 1) (C := RX3) (T := TX3) (N := 3) (zd_eq zk58 (by decide +kernel : decode cX3_put 19 = .ok (.getfield 15, 3))) rfl (by decide) (by decide) zin_3 (zl_f zo58 zw_221)) <|
  zcons (a := (22, zi_k (.int 1) 23)) (zs_iconst (M := 58) (pc := 22) (zd_eq zk58 (by decide +kernel : decode cX3_put 22 = .ok (.iconst 1, 1))) (by decide)) <|
  zcons (a := (23, zi_b2 (fun x y => ¬ x = y) 37 26)) (zs_icmpne (M := 58) (pc := 23) (zd_eq zk58 (by decide +kernel : decode cX3_put 23 = .ok (.if_icmp .ne 14, 3))) (by decide)) <|
  zcons (a := (26, zi_al 0 27)) (zs_al_n (M := 58) (pc := 26) (zd_eq zk58 (by decide +kernel : decode cX3_put 26 = .ok (.aload_n 0, 1)))) <|
  zcons (a := (27, zi_gr 3 0 30)) (zs_gr (M := 58) (pc := 27) (n := 0) (ci := 3) (k := 0) (C := RX3) (T := TX3) (N := 3) (zd_eq zk58 (by decide +kernel : decode cX3_put 27 = .ok (.getfield 9, 3))) rfl (by decide) (by decide) zin_3 (zl_f zo58 zw_219)) <|
  zcons (a := (30, zi_il 1 31)) (zs_il_n (M := 58) (pc := 30) (zd_eq zk58 (by decide +kernel : decode cX3_put 30 = .ok (.iload_n 1, 1)))) <|
  zcons (a := (31, zi_il 2 32)) (zs_il_n (M := 58) (pc := 31) (zd_eq zk58 (by decide +kernel : decode cX3_put 31 = .ok (.iload_n 2, 1)))) <|
  zcons (a := (32, zi_un (fun x => x.toInt16.toInt32) 33)) (zs_i2s (M := 58) (pc := 32) (zd_eq zk58 (by decide +kernel : decode cX3_put 32 = .ok (.i2s, 1)))) <|
  zcons (a := (33, zi_ast 0 (fun x => x) 34)) (zs_iast (M := 58) (pc := 33) (zd_eq zk58 (by decide +kernel : decode cX3_put 33 = .ok (.iastore, 1)))) <|
  zcons (a := (34, zi_go 44)) (zs_goto (M := 58) (pc := 34) (zd_eq zk58 (by decide +kernel : decode cX3_put 34 = .ok (.goto 10, 3))) (by decide)) <|
  zcons (a := (37, zi_al 0 38)) (zs_al_n (M := 58) (pc := 37) (zd_eq zk58 (by decide +kernel : decode cX3_put 37 = .ok (.aload_n 0, 1)))) <|
  zcons (a := (38, zi_gr 3 0 41)) (zs_gr (M := 58) (pc := 38) (n := 0) (ci := 3) (k := 0) (C := RX3) (T := TX3) (N := 3) (zd_eq zk58 (by decide +kernel : decode cX3_put 38 = .ok (.getfield 9, 3))) rfl (by decide) (by decide) zin_3 (zl_f zo58 zw_219)) <|
  zcons (a := (41, zi_il 1 42)) (zs_il_n (M := 58) (pc := 41) (zd_eq zk58 (by decide +kernel : decode cX3_put 41 = .ok (.iload_n 1, 1)))) <| znil
theorem zS58_1 : ∀ q ∈ zm_c58_1, zm_Snd 58 q.1 q.2 :=
  zcons (a := (42, zi_il 2 43)) (zs_il_n (M := 58) (pc := 42) (zd_eq zk58 (by decide +kernel : decode cX3_put 42 = .ok (.iload_n 2, 1)))) <|
  zcons (a := (43, zi_ast 0 (fun x => x) 44)) (zs_iast (M := 58) (pc := 43) (zd_eq zk58 (by decide +kernel : decode cX3_put 43 = .ok (.iastore, 1)))) <|
  zcons (a := (44, zi_rv)) (zs_rv (M := 58) (pc := 44) (zd_eq zk58 (by decide +kernel : decode cX3_put 44 = .ok (.return_, 1))) rfl) <| znil
theorem zS58 : ∀ pc, zm_Snd 58 pc (zm_lk2 zm_c58 pc) := zlk2 (zcons2 zS58_0 (zcons2 zS58_1 (znil2)))
theorem zS59_0 : ∀ q ∈ zm_c59_0, zm_Snd 59 q.1 q.2 :=
  zcons (a := (0, zi_al 0 1)) (zs_al_n (M := 59) (pc := 0) (zd_eq zk59 (by decide +kernel : decode cX3_faultAt 0 = .ok (.aload_n 0, 1)))) <|
  zcons (a := (1, zi_gi 3 1 4)) (zs_gi (M := 59) (pc := 1) (n := 0) (ci := 3) (k := 1) (C := RX3) (T := TX3) (N := 3) (zd_eq zk59 (by decide +kernel : decode cX3_faultAt 1 = .ok (.getfield 15, 3))) rfl (by decide) (by decide) zin_3 (zl_f zo59 zw_221)) <|
  zcons (a := (4, zi_k (.int (-1)) 5)) (zs_iconst (M := 59) (pc := 4) (zd_eq zk59 (by decide +kernel : decode cX3_faultAt 4 = .ok (.iconst (-1), 1))) (by decide)) <|
  zcons (a := (5, zi_b2 (fun x y => ¬ x = y) 10 8)) (zs_icmpne (M := 59) (pc := 5) (zd_eq zk59 (by decide +kernel : decode cX3_faultAt 5 = .ok (.if_icmp .ne 5, 3))) (by decide)) <|
  zcons (a := (8, zi_k (.int 1) 9)) (zs_iconst (M := 59) (pc := 8) (zd_eq zk59 (by decide +kernel : decode cX3_faultAt 8 = .ok (.iconst 1, 1))) (by decide)) <|
  zcons (a := (9, zi_ri)) (zs_ri (M := 59) (pc := 9) (zd_eq zk59 (by decide +kernel : decode cX3_faultAt 9 = .ok (.ireturn, 1))) rfl) <|
  zcons (a := (10, zi_al 0 11)) (zs_al_n (M := 59) (pc := 10) (zd_eq zk59 (by decide +kernel : decode cX3_faultAt 10 = .ok (.aload_n 0, 1)))) <|
  zcons (a := (11, zi_gi 3 1 14)) (zs_gi (M := 59) (pc := 11) (n := 0) (ci := 3) (k := 1) (C := RX3) (T := TX3) (N := 3) (zd_eq zk59 (by decide +kernel : decode cX3_faultAt 11 = .ok (.getfield 15, 3))) rfl (by decide) (by decide) zin_3 (zl_f zo59 zw_221)) <|
  zcons (a := (14, zi_il 2 15)) (zs_il_n (M := 59) (pc := 14) (zd_eq zk59 (by decide +kernel : decode cX3_faultAt 14 = .ok (.iload_n 2, 1)))) <|
  zcons (a := (15, zi_b2 (fun x y => x = y) 20 18)) (zs_icmpeq (M := 59) (pc := 15) (zd_eq zk59 (by decide +kernel : decode cX3_faultAt 15 = .ok (.if_icmp .eq 5, 3))) (by decide)) <|
  zcons (a := (18, zi_k (.int 3) 19)) (zs_iconst (M := 59) (pc := 18) (zd_eq zk59 (by decide +kernel : decode cX3_faultAt 18 = .ok (.iconst 3, 1))) (by decide)) <|
  zcons (a := (19, zi_ri)) (zs_ri (M := 59) (pc := 19) (zd_eq zk59 (by decide +kernel : decode cX3_faultAt 19 = .ok (.ireturn, 1))) rfl) <|
  zcons (a := (20, zi_il 1 21)) (zs_il_n (M := 59) (pc := 20) (zd_eq zk59 (by decide +kernel : decode cX3_faultAt 20 = .ok (.iload_n 1, 1)))) <|
  zcons (a := (21, zi_b1 (fun x => x < 0) 32 24)) (zs_iflt (M := 59) (pc := 21) (zd_eq zk59 (by decide +kernel : decode cX3_faultAt 21 = .ok (.ifCond .lt 11, 3))) (by decide)) <|
  zcons (a := (24, zi_il 1 25)) (zs_il_n (M := 59) (pc := 24) (zd_eq zk59 (by decide +kernel : decode cX3_faultAt 24 = .ok (.iload_n 1, 1)))) <|
  zcons (a := (25, zi_al 0 26)) (zs_al_n (M := 59) (pc := 25) (zd_eq zk59 (by decide +kernel : decode cX3_faultAt 25 = .ok (.aload_n 0, 1)))) <|
  zcons (a := (26, zi_gi 3 2 29)) (zs_gi (M := 59) (pc := 26) (n := 0) (ci := 3) (k := 2) (C := RX3) (T := TX3) (N := 3) (zd_eq zk59 (by decide +kernel : decode cX3_faultAt 26 = .ok (.getfield 19, 3))) rfl (by decide) (by decide) zin_3 (zl_f zo59 zw_223)) <|
  zcons (a := (29, zi_b2 (fun x y => x < y) 36 32)) (zs_icmplt (M := 59) (pc := 29) (zd_eq zk59 (by decide +kernel : decode cX3_faultAt 29 = .ok (.if_icmp .lt 7, 3))) (by decide)) <|
  zcons (a := (32, zi_k (.int 2) 33)) (zs_iconst (M := 59) (pc := 32) (zd_eq zk59 (by decide +kernel : decode cX3_faultAt 32 = .ok (.iconst 2, 1))) (by decide)) <|
  zcons (a := (33, zi_go 37)) (zs_goto (M := 59) (pc := 33) (zd_eq zk59 (by decide +kernel : decode cX3_faultAt 33 = .ok (.goto 4, 3))) (by decide)) <|
  zcons (a := (36, zi_k (.int 0) 37)) (zs_iconst (M := 59) (pc := 36) (zd_eq zk59 (by decide +kernel : decode cX3_faultAt 36 = .ok (.iconst 0, 1))) (by decide)) <|
  zcons (a := (37, zi_ri)) (zs_ri (M := 59) (pc := 37) (zd_eq zk59 (by decide +kernel : decode cX3_faultAt 37 = .ok (.ireturn, 1))) rfl) <| znil
theorem zS59 : ∀ pc, zm_Snd 59 pc (zm_lk2 zm_c59 pc) := zlk2 (zcons2 zS59_0 (znil2))
theorem zS60_0 : ∀ q ∈ zm_c60_0, zm_Snd 60 q.1 q.2 :=
  zcons (a := (0, zi_al 0 1)) (zs_al_n (M := 60) (pc := 0) (zd_eq zk60 (by decide +kernel : decode cX3_faultOfPair 0 = .ok (.aload_n 0, 1)))) <|
  zcons (a := (1, zi_il 1 2)) (zs_il_n (M := 60) (pc := 1) (zd_eq zk60 (by decide +kernel : decode cX3_faultOfPair 1 = .ok (.iload_n 1, 1)))) <|
  zcons (a := (2, zi_il 3 3)) (zs_il_n (M := 60) (pc := 2) (zd_eq zk60 (by decide +kernel : decode cX3_faultOfPair 2 = .ok (.iload_n 3, 1)))) <|
  zcons (a := (3, zi_cv 59 2 3 6 1)) (zs_cv (M := 60) (pc := 3) (M' := 59) (k := 2) (kd := 1) (ci := 3) (q := (RX3, TX3, 3)) (zd_eq zk60 (by decide +kernel : decode cX3_faultOfPair 3 = .ok (.invokevirtual 28, 3))) zWd59 (zl_m zo60 zy59 zw_778) (zl_i zy59 zw_763) (zl_e zy59 zw_764) (by decide) rfl (by rw [zo59])) <|
  zcons (a := (6, zi_is 4 8)) (zs_is_w (M := 60) (pc := 6) (zd_eq zk60 (by decide +kernel : decode cX3_faultOfPair 6 = .ok (.istore 4, 2))) (by decide +kernel) (by decide +kernel)) <|
  zcons (a := (8, zi_il 4 10)) (zs_il_w (M := 60) (pc := 8) (zd_eq zk60 (by decide +kernel : decode cX3_faultOfPair 8 = .ok (.iload 4, 2)))) <|
  zcons (a := (10, zi_b1 (fun x => x = 0) 18 13)) (zs_ifeq (M := 60) (pc := 10) (zd_eq zk60 (by decide +kernel : decode cX3_faultOfPair 10 = .ok (.ifCond .eq 8, 3))) (by decide)) <|
  zcons (a := (13, zi_il 4 15)) (zs_il_w (M := 60) (pc := 13) (zd_eq zk60 (by decide +kernel : decode cX3_faultOfPair 13 = .ok (.iload 4, 2)))) <|
  zcons (a := (15, zi_go 30)) (zs_goto (M := 60) (pc := 15) (zd_eq zk60 (by decide +kernel : decode cX3_faultOfPair 15 = .ok (.goto 15, 3))) (by decide)) <|
  zcons (a := (18, zi_al 0 19)) (zs_al_n (M := 60) (pc := 18) (zd_eq zk60 (by decide +kernel : decode cX3_faultOfPair 18 = .ok (.aload_n 0, 1)))) <|
  zcons (a := (19, zi_il 1 20)) (zs_il_n (M := 60) (pc := 19) (zd_eq zk60 (by decide +kernel : decode cX3_faultOfPair 19 = .ok (.iload_n 1, 1)))) <|
  zcons (a := (20, zi_k (.int 2) 21)) (zs_iconst (M := 60) (pc := 20) (zd_eq zk60 (by decide +kernel : decode cX3_faultOfPair 20 = .ok (.iconst 2, 1))) (by decide)) <|
  zcons (a := (21, zi_il 2 22)) (zs_il_n (M := 60) (pc := 21) (zd_eq zk60 (by decide +kernel : decode cX3_faultOfPair 21 = .ok (.iload_n 2, 1)))) <|
  zcons (a := (22, zi_bin (· * ·) 23)) (zs_imul (M := 60) (pc := 22) (zd_eq zk60 (by decide +kernel : decode cX3_faultOfPair 22 = .ok (.imul, 1)))) <|
  zcons (a := (23, zi_bin (· + ·) 24)) (zs_iadd (M := 60) (pc := 23) (zd_eq zk60 (by decide +kernel : decode cX3_faultOfPair 23 = .ok (.iadd, 1)))) <|
  zcons (a := (24, zi_k (.int 1) 25)) (zs_iconst (M := 60) (pc := 24) (zd_eq zk60 (by decide +kernel : decode cX3_faultOfPair 24 = .ok (.iconst 1, 1))) (by decide)) <|
  zcons (a := (25, zi_bin (· + ·) 26)) (zs_iadd (M := 60) (pc := 25) (zd_eq zk60 (by decide +kernel : decode cX3_faultOfPair 25 = .ok (.iadd, 1)))) <|
  zcons (a := (26, zi_il 3 27)) (zs_il_n (M := 60) (pc := 26) (zd_eq zk60 (by decide +kernel : decode cX3_faultOfPair 26 = .ok (.iload_n 3, 1)))) <|
  zcons (a := (27, zi_cv 59 2 3 30 1)) (zs_cv (M := 60) (pc := 27) (M' := 59) (k := 2) (kd := 1) (ci := 3) (q := (RX3, TX3, 3)) (zd_eq zk60 (by decide +kernel : decode cX3_faultOfPair 27 = .ok (.invokevirtual 28, 3))) zWd59 (zl_m zo60 zy59 zw_778) (zl_i zy59 zw_763) (zl_e zy59 zw_764) (by decide) rfl (by rw [zo59])) <|
  zcons (a := (30, zi_ri)) (zs_ri (M := 60) (pc := 30) (zd_eq zk60 (by decide +kernel : decode cX3_faultOfPair 30 = .ok (.ireturn, 1))) rfl) <| znil
theorem zS60 : ∀ pc, zm_Snd 60 pc (zm_lk2 zm_c60 pc) := zlk2 (zcons2 zS60_0 (znil2))
