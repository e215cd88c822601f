set_option maxRecDepth 100000 in
theorem zS197_0 : ∀ q ∈ zm_c197_0, zm_Snd 197 q.1 q.2 :=
  zcons (a := (0, zi_new 6 3)) (zs_new (M := 197) (pc := 0) (ci := 6) (C := RX6) (T := TX6) (N := 14) (ty := tyX6) (zd_eq zk197 (by decide +kernel : decode cL_law 0 = .ok (.new 7, 3))) rfl rfl zin_6 tyX6_ok (zl_c zo197 zw_65) zw_66 zw_49 zdf_6 zvr_6) <|
  zcons (a := (3, zi_dup 4)) (zs_dup (M := 197) (pc := 3) (zd_eq zk197 (by decide +kernel : decode cL_law 3 = .ok (.dup, 1)))) <|
  zcons (a := (4, zi_ci 61 0 7 0)) (zs_ci (M := 197) (pc := 4) (M' := 61) (k := 0) (kd := 0) (zd_eq zk197 (by decide +kernel : decode cL_law 4 = .ok (.invokespecial 9, 3))) zWd61 (Or.inl (zl_m zo197 zy61 zw_67)) (zl_i zy61 zw_68) rfl (by rw [zy61]; rfl)) <|
  zcons (a := (7, zi_as 1 8)) (zs_as_n (M := 197) (pc := 7) (zd_eq zk197 (by decide +kernel : decode cL_law 7 = .ok (.astore_n 1, 1))) (by decide +kernel) (by decide +kernel)) <|
  zcons (a := (8, zi_new 7 11)) (zs_new (M := 197) (pc := 8) (ci := 7) (C := RX7) (T := TX7) (N := 26) (ty := tyX7) (zd_eq zk197 (by decide +kernel : decode cL_law 8 = .ok (.new 10, 3))) rfl rfl zin_7 tyX7_ok (zl_c zo197 zw_790) zw_791 zw_57 zdf_7 zvr_7) <|
  zcons (a := (11, zi_dup 12)) (zs_dup (M := 197) (pc := 11) (zd_eq zk197 (by decide +kernel : decode cL_law 11 = .ok (.dup, 1)))) <|
  zcons (a := (12, zi_ci 122 0 15 0)) (zs_ci (M := 197) (pc := 12) (M' := 122) (k := 0) (kd := 0) (zd_eq zk197 (by decide +kernel : decode cL_law 12 = .ok (.invokespecial 12, 3))) zWd122 (Or.inl (zl_m zo197 zy122 zw_792)) (zl_i zy122 zw_793) rfl (by rw [zy122]; rfl)) <|
  zcons (a := (15, zi_as 2 16)) (zs_as_n (M := 197) (pc := 15) (zd_eq zk197 (by decide +kernel : decode cL_law 15 = .ok (.astore_n 2, 1))) (by decide +kernel) (by decide +kernel)) <|
  zcons (a := (16, zi_k (.int 0) 17)) (zs_iconst (M := 197) (pc := 16) (zd_eq zk197 (by decide +kernel : decode cL_law 16 = .ok (.iconst 0, 1))) (by decide)) <|
  zcons (a := (17, zi_is 3 18)) (zs_is_n (M := 197) (pc := 17) (zd_eq zk197 (by decide +kernel : decode cL_law 17 = .ok (.istore_n 3, 1))) (by decide +kernel) (by decide +kernel)) <|
  zcons (a := (18, zi_il 3 19)) (zs_il_n (M := 197) (pc := 18) (zd_eq zk197 (by decide +kernel : decode cL_law 18 = .ok (.iload_n 3, 1)))) <|
  zcons (a := (19, zi_al 0 20)) (zs_al_n (M := 197) (pc := 19) (zd_eq zk197 (by decide +kernel : decode cL_law 19 = .ok (.aload_n 0, 1)))) <|
  zcons (a := (20, zi_sln 21)) (zs_sln (M := 197) (pc := 20) (zd_eq zk197 (by decide +kernel : decode cL_law 20 = .ok (.arraylength, 1)))) <|
  zcons (a := (21, zi_k (.int 5) 22)) (zs_iconst (M := 197) (pc := 21) (zd_eq zk197 (by decide +kernel : decode cL_law 21 = .ok (.iconst 5, 1))) (by decide)) <|
  zcons (a := (22, zi_bin (· - ·) 23)) (zs_isub (M := 197) (pc := 22) (zd_eq zk197 (by decide +kernel : decode cL_law 22 = .ok (.isub, 1)))) <|
  zcons (a := (23, zi_b2 (fun x y => y < x) 1518 26)) (zs_icmpgt (M := 197) (pc := 23) (zd_eq zk197 (by decide +kernel : decode cL_law 23 = .ok (.if_icmp .gt 1495, 3))) (by decide)) <|
  zcons (a := (26, zi_al 0 27)) (zs_al_n (M := 197) (pc := 26) (zd_eq zk197 (by decide +kernel : decode cL_law 26 = .ok (.aload_n 0, 1)))) <|
  zcons (a := (27, zi_il 3 28)) (zs_il_n (M := 197) (pc := 27) (zd_eq zk197 (by decide +kernel : decode cL_law 27 = .ok (.iload_n 3, 1)))) <|
  zcons (a := (28, zi_sld 29)) (zs_sld (M := 197) (pc := 28) (zd_eq zk197 (by decide +kernel : decode cL_law 28 = .ok (.iaload, 1)))) <|
  zcons (a := (29, zi_k (.int 63) 31)) (zs_bipush (M := 197) (pc := 29) (zd_eq zk197 (by decide +kernel : decode cL_law 29 = .ok (.bipush 63, 2))) (by decide)) <|
  zcons (a := (31, zi_bin (· &&& ·) 32)) (zs_iand (M := 197) (pc := 31) (zd_eq zk197 (by decide +kernel : decode cL_law 31 = .ok (.iand, 1)))) <|
  zcons (a := (32, zi_ts 0 42 [220, 243, 266, 279, 292, 315, 348, 381, 424, 467, 500, 523, 546, 569, 592, 625, 668, 691, 735, 758, 771, 804, 827, 860, 893, 926, 959, 992, 1036, 1080, 1113, 1136, 1159, 1182, 1215, 1248, 1291, 1314, 1337, 1380, 1423, 1476, 1489] 1512)) (zs_ts (M := 197) (pc := 32) (zd_eq zk197 (by decide +kernel : decode cL_law 32 = .ok (.tableswitch 1480 0 42 #[188, 211, 234, 247, 260, 283, 316, 349, 392, 435, 468, 491, 514, 537, 560, 593, 636, 659, 703, 726, 739, 772, 795, 828, 861, 894, 927, 960, 1004, 1048, 1081, 1104, 1127, 1150, 1183, 1216, 1259, 1282, 1305, 1348, 1391, 1444, 1457], 188))) (by decide) (zts_dec (by decide +kernel))) <|
  zcons (a := (220, zi_al 1 221)) (zs_al_n (M := 197) (pc := 220) (zd_eq zk197 (by decide +kernel : decode cL_law 220 = .ok (.aload_n 1, 1)))) <|
  zcons (a := (221, zi_al 0 222)) (zs_al_n (M := 197) (pc := 221) (zd_eq zk197 (by decide +kernel : decode cL_law 221 = .ok (.aload_n 0, 1)))) <| znil
set_option maxRecDepth 100000 in
theorem zS197_1 : ∀ q ∈ zm_c197_1, zm_Snd 197 q.1 q.2 :=
  zcons (a := (222, zi_il 3 223)) (zs_il_n (M := 197) (pc := 222) (zd_eq zk197 (by decide +kernel : decode cL_law 222 = .ok (.iload_n 3, 1)))) <|
  zcons (a := (223, zi_k (.int 1) 224)) (zs_iconst (M := 197) (pc := 223) (zd_eq zk197 (by decide +kernel : decode cL_law 223 = .ok (.iconst 1, 1))) (by decide)) <|
  zcons (a := (224, zi_bin (· + ·) 225)) (zs_iadd (M := 197) (pc := 224) (zd_eq zk197 (by decide +kernel : decode cL_law 224 = .ok (.iadd, 1)))) <|
  zcons (a := (225, zi_sld 226)) (zs_sld (M := 197) (pc := 225) (zd_eq zk197 (by decide +kernel : decode cL_law 225 = .ok (.iaload, 1)))) <|
  zcons (a := (226, zi_cv 62 1 6 229 1)) (zs_cv (M := 197) (pc := 226) (M' := 62) (k := 1) (kd := 1) (ci := 6) (q := (RX6, TX6, 14)) (zd_eq zk197 (by decide +kernel : decode cL_law 226 = .ok (.invokevirtual 13, 3))) zWd62 (zl_m zo197 zy62 zw_276) (zl_i zy62 zw_277) (zl_e zy62 zw_278) (by decide) rfl (by rw [zo62])) <|
  zcons (a := (229, zi_al 2 230)) (zs_al_n (M := 197) (pc := 229) (zd_eq zk197 (by decide +kernel : decode cL_law 229 = .ok (.aload_n 2, 1)))) <|
  zcons (a := (230, zi_al 0 231)) (zs_al_n (M := 197) (pc := 230) (zd_eq zk197 (by decide +kernel : decode cL_law 230 = .ok (.aload_n 0, 1)))) <|
  zcons (a := (231, zi_il 3 232)) (zs_il_n (M := 197) (pc := 231) (zd_eq zk197 (by decide +kernel : decode cL_law 231 = .ok (.iload_n 3, 1)))) <|
  zcons (a := (232, zi_k (.int 1) 233)) (zs_iconst (M := 197) (pc := 232) (zd_eq zk197 (by decide +kernel : decode cL_law 232 = .ok (.iconst 1, 1))) (by decide)) <|
  zcons (a := (233, zi_bin (· + ·) 234)) (zs_iadd (M := 197) (pc := 233) (zd_eq zk197 (by decide +kernel : decode cL_law 233 = .ok (.iadd, 1)))) <|
  zcons (a := (234, zi_sld 235)) (zs_sld (M := 197) (pc := 234) (zd_eq zk197 (by decide +kernel : decode cL_law 234 = .ok (.iaload, 1)))) <|
  zcons (a := (235, zi_cv 124 1 7 238 1)) (zs_cv (M := 197) (pc := 235) (M' := 124) (k := 1) (kd := 1) (ci := 7) (q := (RX7, TX7, 26)) (zd_eq zk197 (by decide +kernel : decode cL_law 235 = .ok (.invokevirtual 17, 3))) zWd124 (zl_m zo197 zy124 zw_875) (zl_i zy124 zw_876) (zl_e zy124 zw_877) (by decide) rfl (by rw [zo124])) <|
  zcons (a := (238, zi_b2 (fun x y => x = y) 1512 241)) (zs_icmpeq (M := 197) (pc := 238) (zd_eq zk197 (by decide +kernel : decode cL_law 238 = .ok (.if_icmp .eq 1274, 3))) (by decide)) <|
  zcons (a := (241, zi_k (.int 0) 242)) (zs_iconst (M := 197) (pc := 241) (zd_eq zk197 (by decide +kernel : decode cL_law 241 = .ok (.iconst 0, 1))) (by decide)) <|
  zcons (a := (242, zi_rz)) (zs_rz (M := 197) (pc := 242) (zd_eq zk197 (by decide +kernel : decode cL_law 242 = .ok (.ireturn, 1))) rfl) <|
  zcons (a := (243, zi_al 1 244)) (zs_al_n (M := 197) (pc := 243) (zd_eq zk197 (by decide +kernel : decode cL_law 243 = .ok (.aload_n 1, 1)))) <|
  zcons (a := (244, zi_al 0 245)) (zs_al_n (M := 197) (pc := 244) (zd_eq zk197 (by decide +kernel : decode cL_law 244 = .ok (.aload_n 0, 1)))) <|
  zcons (a := (245, zi_il 3 246)) (zs_il_n (M := 197) (pc := 245) (zd_eq zk197 (by decide +kernel : decode cL_law 245 = .ok (.iload_n 3, 1)))) <|
  zcons (a := (246, zi_k (.int 1) 247)) (zs_iconst (M := 197) (pc := 246) (zd_eq zk197 (by decide +kernel : decode cL_law 246 = .ok (.iconst 1, 1))) (by decide)) <|
  zcons (a := (247, zi_bin (· + ·) 248)) (zs_iadd (M := 197) (pc := 247) (zd_eq zk197 (by decide +kernel : decode cL_law 247 = .ok (.iadd, 1)))) <|
  zcons (a := (248, zi_sld 249)) (zs_sld (M := 197) (pc := 248) (zd_eq zk197 (by decide +kernel : decode cL_law 248 = .ok (.iaload, 1)))) <|
  zcons (a := (249, zi_cv 63 1 6 252 1)) (zs_cv (M := 197) (pc := 249) (M' := 63) (k := 1) (kd := 1) (ci := 6) (q := (RX6, TX6, 14)) (zd_eq zk197 (by decide +kernel : decode cL_law 249 = .ok (.invokevirtual 18, 3))) zWd63 (zl_m zo197 zy63 zw_287) (zl_i zy63 zw_288) (zl_e zy63 zw_289) (by decide) rfl (by rw [zo63])) <|
  zcons (a := (252, zi_al 2 253)) (zs_al_n (M := 197) (pc := 252) (zd_eq zk197 (by decide +kernel : decode cL_law 252 = .ok (.aload_n 2, 1)))) <|
  zcons (a := (253, zi_al 0 254)) (zs_al_n (M := 197) (pc := 253) (zd_eq zk197 (by decide +kernel : decode cL_law 253 = .ok (.aload_n 0, 1)))) <| znil
set_option maxRecDepth 100000 in
theorem zS197_2 : ∀ q ∈ zm_c197_2, zm_Snd 197 q.1 q.2 :=
  zcons (a := (254, zi_il 3 255)) (zs_il_n (M := 197) (pc := 254) (zd_eq zk197 (by decide +kernel : decode cL_law 254 = .ok (.iload_n 3, 1)))) <|
  zcons (a := (255, zi_k (.int 1) 256)) (zs_iconst (M := 197) (pc := 255) (zd_eq zk197 (by decide +kernel : decode cL_law 255 = .ok (.iconst 1, 1))) (by decide)) <|
  zcons (a := (256, zi_bin (· + ·) 257)) (zs_iadd (M := 197) (pc := 256) (zd_eq zk197 (by decide +kernel : decode cL_law 256 = .ok (.iadd, 1)))) <|
  zcons (a := (257, zi_sld 258)) (zs_sld (M := 197) (pc := 257) (zd_eq zk197 (by decide +kernel : decode cL_law 257 = .ok (.iaload, 1)))) <|
  zcons (a := (258, zi_cv 125 1 7 261 1)) (zs_cv (M := 197) (pc := 258) (M' := 125) (k := 1) (kd := 1) (ci := 7) (q := (RX7, TX7, 26)) (zd_eq zk197 (by decide +kernel : decode cL_law 258 = .ok (.invokevirtual 21, 3))) zWd125 (zl_m zo197 zy125 zw_883) (zl_i zy125 zw_884) (zl_e zy125 zw_885) (by decide) rfl (by rw [zo125])) <|
  zcons (a := (261, zi_b2 (fun x y => x = y) 1512 264)) (zs_icmpeq (M := 197) (pc := 261) (zd_eq zk197 (by decide +kernel : decode cL_law 261 = .ok (.if_icmp .eq 1251, 3))) (by decide)) <|
  zcons (a := (264, zi_k (.int 0) 265)) (zs_iconst (M := 197) (pc := 264) (zd_eq zk197 (by decide +kernel : decode cL_law 264 = .ok (.iconst 0, 1))) (by decide)) <|
  zcons (a := (265, zi_rz)) (zs_rz (M := 197) (pc := 265) (zd_eq zk197 (by decide +kernel : decode cL_law 265 = .ok (.ireturn, 1))) rfl) <|
  zcons (a := (266, zi_al 1 267)) (zs_al_n (M := 197) (pc := 266) (zd_eq zk197 (by decide +kernel : decode cL_law 266 = .ok (.aload_n 1, 1)))) <|
  zcons (a := (267, zi_cv 64 0 6 270 1)) (zs_cv (M := 197) (pc := 267) (M' := 64) (k := 0) (kd := 1) (ci := 6) (q := (RX6, TX6, 14)) (zd_eq zk197 (by decide +kernel : decode cL_law 267 = .ok (.invokevirtual 22, 3))) zWd64 (zl_m zo197 zy64 zw_291) (zl_i zy64 zw_292) (zl_e zy64 zw_293) (by decide) rfl (by rw [zo64])) <|
  zcons (a := (270, zi_al 2 271)) (zs_al_n (M := 197) (pc := 270) (zd_eq zk197 (by decide +kernel : decode cL_law 270 = .ok (.aload_n 2, 1)))) <|
  zcons (a := (271, zi_cv 133 0 7 274 1)) (zs_cv (M := 197) (pc := 271) (M' := 133) (k := 0) (kd := 1) (ci := 7) (q := (RX7, TX7, 26)) (zd_eq zk197 (by decide +kernel : decode cL_law 271 = .ok (.invokevirtual 26, 3))) zWd133 (zl_m zo197 zy133 zw_887) (zl_i zy133 zw_888) (zl_e zy133 zw_889) (by decide) rfl (by rw [zo133])) <|
  zcons (a := (274, zi_b2 (fun x y => x = y) 1512 277)) (zs_icmpeq (M := 197) (pc := 274) (zd_eq zk197 (by decide +kernel : decode cL_law 274 = .ok (.if_icmp .eq 1238, 3))) (by decide)) <|
  zcons (a := (277, zi_k (.int 0) 278)) (zs_iconst (M := 197) (pc := 277) (zd_eq zk197 (by decide +kernel : decode cL_law 277 = .ok (.iconst 0, 1))) (by decide)) <|
  zcons (a := (278, zi_rz)) (zs_rz (M := 197) (pc := 278) (zd_eq zk197 (by decide +kernel : decode cL_law 278 = .ok (.ireturn, 1))) rfl) <|
  zcons (a := (279, zi_al 1 280)) (zs_al_n (M := 197) (pc := 279) (zd_eq zk197 (by decide +kernel : decode cL_law 279 = .ok (.aload_n 1, 1)))) <|
  zcons (a := (280, zi_cv 65 0 6 283 1)) (zs_cv (M := 197) (pc := 280) (M' := 65) (k := 0) (kd := 1) (ci := 6) (q := (RX6, TX6, 14)) (zd_eq zk197 (by decide +kernel : decode cL_law 280 = .ok (.invokevirtual 27, 3))) zWd65 (zl_m zo197 zy65 zw_426) (zl_i zy65 zw_427) (zl_e zy65 zw_428) (by decide) rfl (by rw [zo65])) <|
  zcons (a := (283, zi_al 2 284)) (zs_al_n (M := 197) (pc := 283) (zd_eq zk197 (by decide +kernel : decode cL_law 283 = .ok (.aload_n 2, 1)))) <|
  zcons (a := (284, zi_cv 134 0 7 287 1)) (zs_cv (M := 197) (pc := 284) (M' := 134) (k := 0) (kd := 1) (ci := 7) (q := (RX7, TX7, 26)) (zd_eq zk197 (by decide +kernel : decode cL_law 284 = .ok (.invokevirtual 30, 3))) zWd134 (zl_m zo197 zy134 zw_925) (zl_i zy134 zw_926) (zl_e zy134 zw_927) (by decide) rfl (by rw [zo134])) <|
  zcons (a := (287, zi_b2 (fun x y => x = y) 1512 290)) (zs_icmpeq (M := 197) (pc := 287) (zd_eq zk197 (by decide +kernel : decode cL_law 287 = .ok (.if_icmp .eq 1225, 3))) (by decide)) <|
  zcons (a := (290, zi_k (.int 0) 291)) (zs_iconst (M := 197) (pc := 290) (zd_eq zk197 (by decide +kernel : decode cL_law 290 = .ok (.iconst 0, 1))) (by decide)) <|
  zcons (a := (291, zi_rz)) (zs_rz (M := 197) (pc := 291) (zd_eq zk197 (by decide +kernel : decode cL_law 291 = .ok (.ireturn, 1))) rfl) <|
  zcons (a := (292, zi_al 1 293)) (zs_al_n (M := 197) (pc := 292) (zd_eq zk197 (by decide +kernel : decode cL_law 292 = .ok (.aload_n 1, 1)))) <|
  zcons (a := (293, zi_al 0 294)) (zs_al_n (M := 197) (pc := 293) (zd_eq zk197 (by decide +kernel : decode cL_law 293 = .ok (.aload_n 0, 1)))) <| znil
set_option maxRecDepth 100000 in
theorem zS197_3 : ∀ q ∈ zm_c197_3, zm_Snd 197 q.1 q.2 :=
  zcons (a := (294, zi_il 3 295)) (zs_il_n (M := 197) (pc := 294) (zd_eq zk197 (by decide +kernel : decode cL_law 294 = .ok (.iload_n 3, 1)))) <|
  zcons (a := (295, zi_k (.int 1) 296)) (zs_iconst (M := 197) (pc := 295) (zd_eq zk197 (by decide +kernel : decode cL_law 295 = .ok (.iconst 1, 1))) (by decide)) <|
  zcons (a := (296, zi_bin (· + ·) 297)) (zs_iadd (M := 197) (pc := 296) (zd_eq zk197 (by decide +kernel : decode cL_law 296 = .ok (.iadd, 1)))) <|
  zcons (a := (297, zi_sld 298)) (zs_sld (M := 197) (pc := 297) (zd_eq zk197 (by decide +kernel : decode cL_law 297 = .ok (.iaload, 1)))) <|
  zcons (a := (298, zi_cv 66 1 6 301 1)) (zs_cv (M := 197) (pc := 298) (M' := 66) (k := 1) (kd := 1) (ci := 6) (q := (RX6, TX6, 14)) (zd_eq zk197 (by decide +kernel : decode cL_law 298 = .ok (.invokevirtual 31, 3))) zWd66 (zl_m zo197 zy66 zw_430) (zl_i zy66 zw_431) (zl_e zy66 zw_432) (by decide) rfl (by rw [zo66])) <|
  zcons (a := (301, zi_al 2 302)) (zs_al_n (M := 197) (pc := 301) (zd_eq zk197 (by decide +kernel : decode cL_law 301 = .ok (.aload_n 2, 1)))) <|
  zcons (a := (302, zi_al 0 303)) (zs_al_n (M := 197) (pc := 302) (zd_eq zk197 (by decide +kernel : decode cL_law 302 = .ok (.aload_n 0, 1)))) <|
  zcons (a := (303, zi_il 3 304)) (zs_il_n (M := 197) (pc := 303) (zd_eq zk197 (by decide +kernel : decode cL_law 303 = .ok (.iload_n 3, 1)))) <|
  zcons (a := (304, zi_k (.int 1) 305)) (zs_iconst (M := 197) (pc := 304) (zd_eq zk197 (by decide +kernel : decode cL_law 304 = .ok (.iconst 1, 1))) (by decide)) <|
  zcons (a := (305, zi_bin (· + ·) 306)) (zs_iadd (M := 197) (pc := 305) (zd_eq zk197 (by decide +kernel : decode cL_law 305 = .ok (.iadd, 1)))) <|
  zcons (a := (306, zi_sld 307)) (zs_sld (M := 197) (pc := 306) (zd_eq zk197 (by decide +kernel : decode cL_law 306 = .ok (.iaload, 1)))) <|
  zcons (a := (307, zi_cv 147 1 7 310 1)) (zs_cv (M := 197) (pc := 307) (M' := 147) (k := 1) (kd := 1) (ci := 7) (q := (RX7, TX7, 26)) (zd_eq zk197 (by decide +kernel : decode cL_law 307 = .ok (.invokevirtual 34, 3))) zWd147 (zl_m zo197 zy147 zw_929) (zl_i zy147 zw_930) (zl_e zy147 zw_931) (by decide) rfl (by rw [zo147])) <|
  zcons (a := (310, zi_b2 (fun x y => x = y) 1512 313)) (zs_icmpeq (M := 197) (pc := 310) (zd_eq zk197 (by decide +kernel : decode cL_law 310 = .ok (.if_icmp .eq 1202, 3))) (by decide)) <|
  zcons (a := (313, zi_k (.int 0) 314)) (zs_iconst (M := 197) (pc := 313) (zd_eq zk197 (by decide +kernel : decode cL_law 313 = .ok (.iconst 0, 1))) (by decide)) <|
  zcons (a := (314, zi_rz)) (zs_rz (M := 197) (pc := 314) (zd_eq zk197 (by decide +kernel : decode cL_law 314 = .ok (.ireturn, 1))) rfl) <|
  zcons (a := (315, zi_al 1 316)) (zs_al_n (M := 197) (pc := 315) (zd_eq zk197 (by decide +kernel : decode cL_law 315 = .ok (.aload_n 1, 1)))) <|
  zcons (a := (316, zi_al 0 317)) (zs_al_n (M := 197) (pc := 316) (zd_eq zk197 (by decide +kernel : decode cL_law 316 = .ok (.aload_n 0, 1)))) <|
  zcons (a := (317, zi_il 3 318)) (zs_il_n (M := 197) (pc := 317) (zd_eq zk197 (by decide +kernel : decode cL_law 317 = .ok (.iload_n 3, 1)))) <|
  zcons (a := (318, zi_k (.int 1) 319)) (zs_iconst (M := 197) (pc := 318) (zd_eq zk197 (by decide +kernel : decode cL_law 318 = .ok (.iconst 1, 1))) (by decide)) <|
  zcons (a := (319, zi_bin (· + ·) 320)) (zs_iadd (M := 197) (pc := 319) (zd_eq zk197 (by decide +kernel : decode cL_law 319 = .ok (.iadd, 1)))) <|
  zcons (a := (320, zi_sld 321)) (zs_sld (M := 197) (pc := 320) (zd_eq zk197 (by decide +kernel : decode cL_law 320 = .ok (.iaload, 1)))) <|
  zcons (a := (321, zi_al 0 322)) (zs_al_n (M := 197) (pc := 321) (zd_eq zk197 (by decide +kernel : decode cL_law 321 = .ok (.aload_n 0, 1)))) <|
  zcons (a := (322, zi_il 3 323)) (zs_il_n (M := 197) (pc := 322) (zd_eq zk197 (by decide +kernel : decode cL_law 322 = .ok (.iload_n 3, 1)))) <|
  zcons (a := (323, zi_k (.int 2) 324)) (zs_iconst (M := 197) (pc := 323) (zd_eq zk197 (by decide +kernel : decode cL_law 323 = .ok (.iconst 2, 1))) (by decide)) <| znil
set_option maxRecDepth 100000 in
theorem zS197_4 : ∀ q ∈ zm_c197_4, zm_Snd 197 q.1 q.2 :=
  zcons (a := (324, zi_bin (· + ·) 325)) (zs_iadd (M := 197) (pc := 324) (zd_eq zk197 (by decide +kernel : decode cL_law 324 = .ok (.iadd, 1)))) <|
  zcons (a := (325, zi_sld 326)) (zs_sld (M := 197) (pc := 325) (zd_eq zk197 (by decide +kernel : decode cL_law 325 = .ok (.iaload, 1)))) <|
  zcons (a := (326, zi_cv 67 2 6 329 1)) (zs_cv (M := 197) (pc := 326) (M' := 67) (k := 2) (kd := 1) (ci := 6) (q := (RX6, TX6, 14)) (zd_eq zk197 (by decide +kernel : decode cL_law 326 = .ok (.invokevirtual 35, 3))) zWd67 (zl_m zo197 zy67 zw_455) (zl_i zy67 zw_456) (zl_e zy67 zw_457) (by decide) rfl (by rw [zo67])) <|
  zcons (a := (329, zi_al 2 330)) (zs_al_n (M := 197) (pc := 329) (zd_eq zk197 (by decide +kernel : decode cL_law 329 = .ok (.aload_n 2, 1)))) <|
  zcons (a := (330, zi_al 0 331)) (zs_al_n (M := 197) (pc := 330) (zd_eq zk197 (by decide +kernel : decode cL_law 330 = .ok (.aload_n 0, 1)))) <|
  zcons (a := (331, zi_il 3 332)) (zs_il_n (M := 197) (pc := 331) (zd_eq zk197 (by decide +kernel : decode cL_law 331 = .ok (.iload_n 3, 1)))) <|
  zcons (a := (332, zi_k (.int 1) 333)) (zs_iconst (M := 197) (pc := 332) (zd_eq zk197 (by decide +kernel : decode cL_law 332 = .ok (.iconst 1, 1))) (by decide)) <|
  zcons (a := (333, zi_bin (· + ·) 334)) (zs_iadd (M := 197) (pc := 333) (zd_eq zk197 (by decide +kernel : decode cL_law 333 = .ok (.iadd, 1)))) <|
  zcons (a := (334, zi_sld 335)) (zs_sld (M := 197) (pc := 334) (zd_eq zk197 (by decide +kernel : decode cL_law 334 = .ok (.iaload, 1)))) <|
  zcons (a := (335, zi_al 0 336)) (zs_al_n (M := 197) (pc := 335) (zd_eq zk197 (by decide +kernel : decode cL_law 335 = .ok (.aload_n 0, 1)))) <|
  zcons (a := (336, zi_il 3 337)) (zs_il_n (M := 197) (pc := 336) (zd_eq zk197 (by decide +kernel : decode cL_law 336 = .ok (.iload_n 3, 1)))) <|
  zcons (a := (337, zi_k (.int 2) 338)) (zs_iconst (M := 197) (pc := 337) (zd_eq zk197 (by decide +kernel : decode cL_law 337 = .ok (.iconst 2, 1))) (by decide)) <|
  zcons (a := (338, zi_bin (· + ·) 339)) (zs_iadd (M := 197) (pc := 338) (zd_eq zk197 (by decide +kernel : decode cL_law 338 = .ok (.iadd, 1)))) <|
  zcons (a := (339, zi_sld 340)) (zs_sld (M := 197) (pc := 339) (zd_eq zk197 (by decide +kernel : decode cL_law 339 = .ok (.iaload, 1)))) <|
  zcons (a := (340, zi_cv 148 2 7 343 1)) (zs_cv (M := 197) (pc := 340) (M' := 148) (k := 2) (kd := 1) (ci := 7) (q := (RX7, TX7, 26)) (zd_eq zk197 (by decide +kernel : decode cL_law 340 = .ok (.invokevirtual 39, 3))) zWd148 (zl_m zo197 zy148 zw_949) (zl_i zy148 zw_950) (zl_e zy148 zw_951) (by decide) rfl (by rw [zo148])) <|
  zcons (a := (343, zi_b2 (fun x y => x = y) 1512 346)) (zs_icmpeq (M := 197) (pc := 343) (zd_eq zk197 (by decide +kernel : decode cL_law 343 = .ok (.if_icmp .eq 1169, 3))) (by decide)) <|
  zcons (a := (346, zi_k (.int 0) 347)) (zs_iconst (M := 197) (pc := 346) (zd_eq zk197 (by decide +kernel : decode cL_law 346 = .ok (.iconst 0, 1))) (by decide)) <|
  zcons (a := (347, zi_rz)) (zs_rz (M := 197) (pc := 347) (zd_eq zk197 (by decide +kernel : decode cL_law 347 = .ok (.ireturn, 1))) rfl) <|
  zcons (a := (348, zi_al 1 349)) (zs_al_n (M := 197) (pc := 348) (zd_eq zk197 (by decide +kernel : decode cL_law 348 = .ok (.aload_n 1, 1)))) <|
  zcons (a := (349, zi_al 0 350)) (zs_al_n (M := 197) (pc := 349) (zd_eq zk197 (by decide +kernel : decode cL_law 349 = .ok (.aload_n 0, 1)))) <|
  zcons (a := (350, zi_il 3 351)) (zs_il_n (M := 197) (pc := 350) (zd_eq zk197 (by decide +kernel : decode cL_law 350 = .ok (.iload_n 3, 1)))) <|
  zcons (a := (351, zi_k (.int 1) 352)) (zs_iconst (M := 197) (pc := 351) (zd_eq zk197 (by decide +kernel : decode cL_law 351 = .ok (.iconst 1, 1))) (by decide)) <|
  zcons (a := (352, zi_bin (· + ·) 353)) (zs_iadd (M := 197) (pc := 352) (zd_eq zk197 (by decide +kernel : decode cL_law 352 = .ok (.iadd, 1)))) <|
  zcons (a := (353, zi_sld 354)) (zs_sld (M := 197) (pc := 353) (zd_eq zk197 (by decide +kernel : decode cL_law 353 = .ok (.iaload, 1)))) <| znil
set_option maxRecDepth 100000 in
theorem zS197_5 : ∀ q ∈ zm_c197_5, zm_Snd 197 q.1 q.2 :=
  zcons (a := (354, zi_al 0 355)) (zs_al_n (M := 197) (pc := 354) (zd_eq zk197 (by decide +kernel : decode cL_law 354 = .ok (.aload_n 0, 1)))) <|
  zcons (a := (355, zi_il 3 356)) (zs_il_n (M := 197) (pc := 355) (zd_eq zk197 (by decide +kernel : decode cL_law 355 = .ok (.iload_n 3, 1)))) <|
  zcons (a := (356, zi_k (.int 2) 357)) (zs_iconst (M := 197) (pc := 356) (zd_eq zk197 (by decide +kernel : decode cL_law 356 = .ok (.iconst 2, 1))) (by decide)) <|
  zcons (a := (357, zi_bin (· + ·) 358)) (zs_iadd (M := 197) (pc := 357) (zd_eq zk197 (by decide +kernel : decode cL_law 357 = .ok (.iadd, 1)))) <|
  zcons (a := (358, zi_sld 359)) (zs_sld (M := 197) (pc := 358) (zd_eq zk197 (by decide +kernel : decode cL_law 358 = .ok (.iaload, 1)))) <|
  zcons (a := (359, zi_cv 68 2 6 362 1)) (zs_cv (M := 197) (pc := 359) (M' := 68) (k := 2) (kd := 1) (ci := 6) (q := (RX6, TX6, 14)) (zd_eq zk197 (by decide +kernel : decode cL_law 359 = .ok (.invokevirtual 40, 3))) zWd68 (zl_m zo197 zy68 zw_479) (zl_i zy68 zw_480) (zl_e zy68 zw_481) (by decide) rfl (by rw [zo68])) <|
  zcons (a := (362, zi_al 2 363)) (zs_al_n (M := 197) (pc := 362) (zd_eq zk197 (by decide +kernel : decode cL_law 362 = .ok (.aload_n 2, 1)))) <|
  zcons (a := (363, zi_al 0 364)) (zs_al_n (M := 197) (pc := 363) (zd_eq zk197 (by decide +kernel : decode cL_law 363 = .ok (.aload_n 0, 1)))) <|
  zcons (a := (364, zi_il 3 365)) (zs_il_n (M := 197) (pc := 364) (zd_eq zk197 (by decide +kernel : decode cL_law 364 = .ok (.iload_n 3, 1)))) <|
  zcons (a := (365, zi_k (.int 1) 366)) (zs_iconst (M := 197) (pc := 365) (zd_eq zk197 (by decide +kernel : decode cL_law 365 = .ok (.iconst 1, 1))) (by decide)) <|
  zcons (a := (366, zi_bin (· + ·) 367)) (zs_iadd (M := 197) (pc := 366) (zd_eq zk197 (by decide +kernel : decode cL_law 366 = .ok (.iadd, 1)))) <|
  zcons (a := (367, zi_sld 368)) (zs_sld (M := 197) (pc := 367) (zd_eq zk197 (by decide +kernel : decode cL_law 367 = .ok (.iaload, 1)))) <|
  zcons (a := (368, zi_al 0 369)) (zs_al_n (M := 197) (pc := 368) (zd_eq zk197 (by decide +kernel : decode cL_law 368 = .ok (.aload_n 0, 1)))) <|
  zcons (a := (369, zi_il 3 370)) (zs_il_n (M := 197) (pc := 369) (zd_eq zk197 (by decide +kernel : decode cL_law 369 = .ok (.iload_n 3, 1)))) <|
  zcons (a := (370, zi_k (.int 2) 371)) (zs_iconst (M := 197) (pc := 370) (zd_eq zk197 (by decide +kernel : decode cL_law 370 = .ok (.iconst 2, 1))) (by decide)) <|
  zcons (a := (371, zi_bin (· + ·) 372)) (zs_iadd (M := 197) (pc := 371) (zd_eq zk197 (by decide +kernel : decode cL_law 371 = .ok (.iadd, 1)))) <|
  zcons (a := (372, zi_sld 373)) (zs_sld (M := 197) (pc := 372) (zd_eq zk197 (by decide +kernel : decode cL_law 372 = .ok (.iaload, 1)))) <|
  zcons (a := (373, zi_cv 149 2 7 376 1)) (zs_cv (M := 197) (pc := 373) (M' := 149) (k := 2) (kd := 1) (ci := 7) (q := (RX7, TX7, 26)) (zd_eq zk197 (by decide +kernel : decode cL_law 373 = .ok (.invokevirtual 43, 3))) zWd149 (zl_m zo197 zy149 zw_973) (zl_i zy149 zw_974) (zl_e zy149 zw_975) (by decide) rfl (by rw [zo149])) <|
  zcons (a := (376, zi_b2 (fun x y => x = y) 1512 379)) (zs_icmpeq (M := 197) (pc := 376) (zd_eq zk197 (by decide +kernel : decode cL_law 376 = .ok (.if_icmp .eq 1136, 3))) (by decide)) <|
  zcons (a := (379, zi_k (.int 0) 380)) (zs_iconst (M := 197) (pc := 379) (zd_eq zk197 (by decide +kernel : decode cL_law 379 = .ok (.iconst 0, 1))) (by decide)) <|
  zcons (a := (380, zi_rz)) (zs_rz (M := 197) (pc := 380) (zd_eq zk197 (by decide +kernel : decode cL_law 380 = .ok (.ireturn, 1))) rfl) <|
  zcons (a := (381, zi_al 1 382)) (zs_al_n (M := 197) (pc := 381) (zd_eq zk197 (by decide +kernel : decode cL_law 381 = .ok (.aload_n 1, 1)))) <|
  zcons (a := (382, zi_al 0 383)) (zs_al_n (M := 197) (pc := 382) (zd_eq zk197 (by decide +kernel : decode cL_law 382 = .ok (.aload_n 0, 1)))) <|
  zcons (a := (383, zi_il 3 384)) (zs_il_n (M := 197) (pc := 383) (zd_eq zk197 (by decide +kernel : decode cL_law 383 = .ok (.iload_n 3, 1)))) <| znil
set_option maxRecDepth 100000 in
theorem zS197_6 : ∀ q ∈ zm_c197_6, zm_Snd 197 q.1 q.2 :=
  zcons (a := (384, zi_k (.int 1) 385)) (zs_iconst (M := 197) (pc := 384) (zd_eq zk197 (by decide +kernel : decode cL_law 384 = .ok (.iconst 1, 1))) (by decide)) <|
  zcons (a := (385, zi_bin (· + ·) 386)) (zs_iadd (M := 197) (pc := 385) (zd_eq zk197 (by decide +kernel : decode cL_law 385 = .ok (.iadd, 1)))) <|
  zcons (a := (386, zi_sld 387)) (zs_sld (M := 197) (pc := 386) (zd_eq zk197 (by decide +kernel : decode cL_law 386 = .ok (.iaload, 1)))) <|
  zcons (a := (387, zi_al 0 388)) (zs_al_n (M := 197) (pc := 387) (zd_eq zk197 (by decide +kernel : decode cL_law 387 = .ok (.aload_n 0, 1)))) <|
  zcons (a := (388, zi_il 3 389)) (zs_il_n (M := 197) (pc := 388) (zd_eq zk197 (by decide +kernel : decode cL_law 388 = .ok (.iload_n 3, 1)))) <|
  zcons (a := (389, zi_k (.int 2) 390)) (zs_iconst (M := 197) (pc := 389) (zd_eq zk197 (by decide +kernel : decode cL_law 389 = .ok (.iconst 2, 1))) (by decide)) <|
  zcons (a := (390, zi_bin (· + ·) 391)) (zs_iadd (M := 197) (pc := 390) (zd_eq zk197 (by decide +kernel : decode cL_law 390 = .ok (.iadd, 1)))) <|
  zcons (a := (391, zi_sld 392)) (zs_sld (M := 197) (pc := 391) (zd_eq zk197 (by decide +kernel : decode cL_law 391 = .ok (.iaload, 1)))) <|
  zcons (a := (392, zi_al 0 393)) (zs_al_n (M := 197) (pc := 392) (zd_eq zk197 (by decide +kernel : decode cL_law 392 = .ok (.aload_n 0, 1)))) <|
  zcons (a := (393, zi_il 3 394)) (zs_il_n (M := 197) (pc := 393) (zd_eq zk197 (by decide +kernel : decode cL_law 393 = .ok (.iload_n 3, 1)))) <|
  zcons (a := (394, zi_k (.int 3) 395)) (zs_iconst (M := 197) (pc := 394) (zd_eq zk197 (by decide +kernel : decode cL_law 394 = .ok (.iconst 3, 1))) (by decide)) <|
  zcons (a := (395, zi_bin (· + ·) 396)) (zs_iadd (M := 197) (pc := 395) (zd_eq zk197 (by decide +kernel : decode cL_law 395 = .ok (.iadd, 1)))) <|
  zcons (a := (396, zi_sld 397)) (zs_sld (M := 197) (pc := 396) (zd_eq zk197 (by decide +kernel : decode cL_law 396 = .ok (.iaload, 1)))) <|
  zcons (a := (397, zi_cv 69 3 6 400 1)) (zs_cv (M := 197) (pc := 397) (M' := 69) (k := 3) (kd := 1) (ci := 6) (q := (RX6, TX6, 14)) (zd_eq zk197 (by decide +kernel : decode cL_law 397 = .ok (.invokevirtual 44, 3))) zWd69 (zl_m zo197 zy69 zw_483) (zl_i zy69 zw_484) (zl_e zy69 zw_485) (by decide) rfl (by rw [zo69])) <|
  zcons (a := (400, zi_al 2 401)) (zs_al_n (M := 197) (pc := 400) (zd_eq zk197 (by decide +kernel : decode cL_law 400 = .ok (.aload_n 2, 1)))) <|
  zcons (a := (401, zi_al 0 402)) (zs_al_n (M := 197) (pc := 401) (zd_eq zk197 (by decide +kernel : decode cL_law 401 = .ok (.aload_n 0, 1)))) <|
  zcons (a := (402, zi_il 3 403)) (zs_il_n (M := 197) (pc := 402) (zd_eq zk197 (by decide +kernel : decode cL_law 402 = .ok (.iload_n 3, 1)))) <|
  zcons (a := (403, zi_k (.int 1) 404)) (zs_iconst (M := 197) (pc := 403) (zd_eq zk197 (by decide +kernel : decode cL_law 403 = .ok (.iconst 1, 1))) (by decide)) <|
  zcons (a := (404, zi_bin (· + ·) 405)) (zs_iadd (M := 197) (pc := 404) (zd_eq zk197 (by decide +kernel : decode cL_law 404 = .ok (.iadd, 1)))) <|
  zcons (a := (405, zi_sld 406)) (zs_sld (M := 197) (pc := 405) (zd_eq zk197 (by decide +kernel : decode cL_law 405 = .ok (.iaload, 1)))) <|
  zcons (a := (406, zi_al 0 407)) (zs_al_n (M := 197) (pc := 406) (zd_eq zk197 (by decide +kernel : decode cL_law 406 = .ok (.aload_n 0, 1)))) <|
  zcons (a := (407, zi_il 3 408)) (zs_il_n (M := 197) (pc := 407) (zd_eq zk197 (by decide +kernel : decode cL_law 407 = .ok (.iload_n 3, 1)))) <|
  zcons (a := (408, zi_k (.int 2) 409)) (zs_iconst (M := 197) (pc := 408) (zd_eq zk197 (by decide +kernel : decode cL_law 408 = .ok (.iconst 2, 1))) (by decide)) <|
  zcons (a := (409, zi_bin (· + ·) 410)) (zs_iadd (M := 197) (pc := 409) (zd_eq zk197 (by decide +kernel : decode cL_law 409 = .ok (.iadd, 1)))) <| znil
set_option maxRecDepth 100000 in
theorem zS197_7 : ∀ q ∈ zm_c197_7, zm_Snd 197 q.1 q.2 :=
  zcons (a := (410, zi_sld 411)) (zs_sld (M := 197) (pc := 410) (zd_eq zk197 (by decide +kernel : decode cL_law 410 = .ok (.iaload, 1)))) <|
  zcons (a := (411, zi_al 0 412)) (zs_al_n (M := 197) (pc := 411) (zd_eq zk197 (by decide +kernel : decode cL_law 411 = .ok (.aload_n 0, 1)))) <|
  zcons (a := (412, zi_il 3 413)) (zs_il_n (M := 197) (pc := 412) (zd_eq zk197 (by decide +kernel : decode cL_law 412 = .ok (.iload_n 3, 1)))) <|
  zcons (a := (413, zi_k (.int 3) 414)) (zs_iconst (M := 197) (pc := 413) (zd_eq zk197 (by decide +kernel : decode cL_law 413 = .ok (.iconst 3, 1))) (by decide)) <|
  zcons (a := (414, zi_bin (· + ·) 415)) (zs_iadd (M := 197) (pc := 414) (zd_eq zk197 (by decide +kernel : decode cL_law 414 = .ok (.iadd, 1)))) <|
  zcons (a := (415, zi_sld 416)) (zs_sld (M := 197) (pc := 415) (zd_eq zk197 (by decide +kernel : decode cL_law 415 = .ok (.iaload, 1)))) <|
  zcons (a := (416, zi_cv 151 3 7 419 1)) (zs_cv (M := 197) (pc := 416) (M' := 151) (k := 3) (kd := 1) (ci := 7) (q := (RX7, TX7, 26)) (zd_eq zk197 (by decide +kernel : decode cL_law 416 = .ok (.invokevirtual 48, 3))) zWd151 (zl_m zo197 zy151 zw_977) (zl_i zy151 zw_978) (zl_e zy151 zw_979) (by decide) rfl (by rw [zo151])) <|
  zcons (a := (419, zi_b2 (fun x y => x = y) 1512 422)) (zs_icmpeq (M := 197) (pc := 419) (zd_eq zk197 (by decide +kernel : decode cL_law 419 = .ok (.if_icmp .eq 1093, 3))) (by decide)) <|
  zcons (a := (422, zi_k (.int 0) 423)) (zs_iconst (M := 197) (pc := 422) (zd_eq zk197 (by decide +kernel : decode cL_law 422 = .ok (.iconst 0, 1))) (by decide)) <|
  zcons (a := (423, zi_rz)) (zs_rz (M := 197) (pc := 423) (zd_eq zk197 (by decide +kernel : decode cL_law 423 = .ok (.ireturn, 1))) rfl) <|
  zcons (a := (424, zi_al 1 425)) (zs_al_n (M := 197) (pc := 424) (zd_eq zk197 (by decide +kernel : decode cL_law 424 = .ok (.aload_n 1, 1)))) <|
  zcons (a := (425, zi_al 0 426)) (zs_al_n (M := 197) (pc := 425) (zd_eq zk197 (by decide +kernel : decode cL_law 425 = .ok (.aload_n 0, 1)))) <|
  zcons (a := (426, zi_il 3 427)) (zs_il_n (M := 197) (pc := 426) (zd_eq zk197 (by decide +kernel : decode cL_law 426 = .ok (.iload_n 3, 1)))) <|
  zcons (a := (427, zi_k (.int 1) 428)) (zs_iconst (M := 197) (pc := 427) (zd_eq zk197 (by decide +kernel : decode cL_law 427 = .ok (.iconst 1, 1))) (by decide)) <|
  zcons (a := (428, zi_bin (· + ·) 429)) (zs_iadd (M := 197) (pc := 428) (zd_eq zk197 (by decide +kernel : decode cL_law 428 = .ok (.iadd, 1)))) <|
  zcons (a := (429, zi_sld 430)) (zs_sld (M := 197) (pc := 429) (zd_eq zk197 (by decide +kernel : decode cL_law 429 = .ok (.iaload, 1)))) <|
  zcons (a := (430, zi_al 0 431)) (zs_al_n (M := 197) (pc := 430) (zd_eq zk197 (by decide +kernel : decode cL_law 430 = .ok (.aload_n 0, 1)))) <|
  zcons (a := (431, zi_il 3 432)) (zs_il_n (M := 197) (pc := 431) (zd_eq zk197 (by decide +kernel : decode cL_law 431 = .ok (.iload_n 3, 1)))) <|
  zcons (a := (432, zi_k (.int 2) 433)) (zs_iconst (M := 197) (pc := 432) (zd_eq zk197 (by decide +kernel : decode cL_law 432 = .ok (.iconst 2, 1))) (by decide)) <|
  zcons (a := (433, zi_bin (· + ·) 434)) (zs_iadd (M := 197) (pc := 433) (zd_eq zk197 (by decide +kernel : decode cL_law 433 = .ok (.iadd, 1)))) <|
  zcons (a := (434, zi_sld 435)) (zs_sld (M := 197) (pc := 434) (zd_eq zk197 (by decide +kernel : decode cL_law 434 = .ok (.iaload, 1)))) <|
  zcons (a := (435, zi_al 0 436)) (zs_al_n (M := 197) (pc := 435) (zd_eq zk197 (by decide +kernel : decode cL_law 435 = .ok (.aload_n 0, 1)))) <|
  zcons (a := (436, zi_il 3 437)) (zs_il_n (M := 197) (pc := 436) (zd_eq zk197 (by decide +kernel : decode cL_law 436 = .ok (.iload_n 3, 1)))) <|
  zcons (a := (437, zi_k (.int 3) 438)) (zs_iconst (M := 197) (pc := 437) (zd_eq zk197 (by decide +kernel : decode cL_law 437 = .ok (.iconst 3, 1))) (by decide)) <| znil
set_option maxRecDepth 100000 in
theorem zS197_8 : ∀ q ∈ zm_c197_8, zm_Snd 197 q.1 q.2 :=
  zcons (a := (438, zi_bin (· + ·) 439)) (zs_iadd (M := 197) (pc := 438) (zd_eq zk197 (by decide +kernel : decode cL_law 438 = .ok (.iadd, 1)))) <|
  zcons (a := (439, zi_sld 440)) (zs_sld (M := 197) (pc := 439) (zd_eq zk197 (by decide +kernel : decode cL_law 439 = .ok (.iaload, 1)))) <|
  zcons (a := (440, zi_cv 70 3 6 443 1)) (zs_cv (M := 197) (pc := 440) (M' := 70) (k := 3) (kd := 1) (ci := 6) (q := (RX6, TX6, 14)) (zd_eq zk197 (by decide +kernel : decode cL_law 440 = .ok (.invokevirtual 49, 3))) zWd70 (zl_m zo197 zy70 zw_493) (zl_i zy70 zw_494) (zl_e zy70 zw_495) (by decide) rfl (by rw [zo70])) <|
  zcons (a := (443, zi_al 2 444)) (zs_al_n (M := 197) (pc := 443) (zd_eq zk197 (by decide +kernel : decode cL_law 443 = .ok (.aload_n 2, 1)))) <|
  zcons (a := (444, zi_al 0 445)) (zs_al_n (M := 197) (pc := 444) (zd_eq zk197 (by decide +kernel : decode cL_law 444 = .ok (.aload_n 0, 1)))) <|
  zcons (a := (445, zi_il 3 446)) (zs_il_n (M := 197) (pc := 445) (zd_eq zk197 (by decide +kernel : decode cL_law 445 = .ok (.iload_n 3, 1)))) <|
  zcons (a := (446, zi_k (.int 1) 447)) (zs_iconst (M := 197) (pc := 446) (zd_eq zk197 (by decide +kernel : decode cL_law 446 = .ok (.iconst 1, 1))) (by decide)) <|
  zcons (a := (447, zi_bin (· + ·) 448)) (zs_iadd (M := 197) (pc := 447) (zd_eq zk197 (by decide +kernel : decode cL_law 447 = .ok (.iadd, 1)))) <|
  zcons (a := (448, zi_sld 449)) (zs_sld (M := 197) (pc := 448) (zd_eq zk197 (by decide +kernel : decode cL_law 448 = .ok (.iaload, 1)))) <|
  zcons (a := (449, zi_al 0 450)) (zs_al_n (M := 197) (pc := 449) (zd_eq zk197 (by decide +kernel : decode cL_law 449 = .ok (.aload_n 0, 1)))) <|
  zcons (a := (450, zi_il 3 451)) (zs_il_n (M := 197) (pc := 450) (zd_eq zk197 (by decide +kernel : decode cL_law 450 = .ok (.iload_n 3, 1)))) <|
  zcons (a := (451, zi_k (.int 2) 452)) (zs_iconst (M := 197) (pc := 451) (zd_eq zk197 (by decide +kernel : decode cL_law 451 = .ok (.iconst 2, 1))) (by decide)) <|
  zcons (a := (452, zi_bin (· + ·) 453)) (zs_iadd (M := 197) (pc := 452) (zd_eq zk197 (by decide +kernel : decode cL_law 452 = .ok (.iadd, 1)))) <|
  zcons (a := (453, zi_sld 454)) (zs_sld (M := 197) (pc := 453) (zd_eq zk197 (by decide +kernel : decode cL_law 453 = .ok (.iaload, 1)))) <|
  zcons (a := (454, zi_al 0 455)) (zs_al_n (M := 197) (pc := 454) (zd_eq zk197 (by decide +kernel : decode cL_law 454 = .ok (.aload_n 0, 1)))) <|
  zcons (a := (455, zi_il 3 456)) (zs_il_n (M := 197) (pc := 455) (zd_eq zk197 (by decide +kernel : decode cL_law 455 = .ok (.iload_n 3, 1)))) <|
  zcons (a := (456, zi_k (.int 3) 457)) (zs_iconst (M := 197) (pc := 456) (zd_eq zk197 (by decide +kernel : decode cL_law 456 = .ok (.iconst 3, 1))) (by decide)) <|
  zcons (a := (457, zi_bin (· + ·) 458)) (zs_iadd (M := 197) (pc := 457) (zd_eq zk197 (by decide +kernel : decode cL_law 457 = .ok (.iadd, 1)))) <|
  zcons (a := (458, zi_sld 459)) (zs_sld (M := 197) (pc := 458) (zd_eq zk197 (by decide +kernel : decode cL_law 458 = .ok (.iaload, 1)))) <|
  zcons (a := (459, zi_cv 152 3 7 462 1)) (zs_cv (M := 197) (pc := 459) (M' := 152) (k := 3) (kd := 1) (ci := 7) (q := (RX7, TX7, 26)) (zd_eq zk197 (by decide +kernel : decode cL_law 459 = .ok (.invokevirtual 52, 3))) zWd152 (zl_m zo197 zy152 zw_986) (zl_i zy152 zw_987) (zl_e zy152 zw_988) (by decide) rfl (by rw [zo152])) <|
  zcons (a := (462, zi_b2 (fun x y => x = y) 1512 465)) (zs_icmpeq (M := 197) (pc := 462) (zd_eq zk197 (by decide +kernel : decode cL_law 462 = .ok (.if_icmp .eq 1050, 3))) (by decide)) <|
  zcons (a := (465, zi_k (.int 0) 466)) (zs_iconst (M := 197) (pc := 465) (zd_eq zk197 (by decide +kernel : decode cL_law 465 = .ok (.iconst 0, 1))) (by decide)) <|
  zcons (a := (466, zi_rz)) (zs_rz (M := 197) (pc := 466) (zd_eq zk197 (by decide +kernel : decode cL_law 466 = .ok (.ireturn, 1))) rfl) <|
  zcons (a := (467, zi_al 1 468)) (zs_al_n (M := 197) (pc := 467) (zd_eq zk197 (by decide +kernel : decode cL_law 467 = .ok (.aload_n 1, 1)))) <| znil
set_option maxRecDepth 100000 in
theorem zS197_9 : ∀ q ∈ zm_c197_9, zm_Snd 197 q.1 q.2 :=
  zcons (a := (468, zi_al 0 469)) (zs_al_n (M := 197) (pc := 468) (zd_eq zk197 (by decide +kernel : decode cL_law 468 = .ok (.aload_n 0, 1)))) <|
  zcons (a := (469, zi_il 3 470)) (zs_il_n (M := 197) (pc := 469) (zd_eq zk197 (by decide +kernel : decode cL_law 469 = .ok (.iload_n 3, 1)))) <|
  zcons (a := (470, zi_k (.int 1) 471)) (zs_iconst (M := 197) (pc := 470) (zd_eq zk197 (by decide +kernel : decode cL_law 470 = .ok (.iconst 1, 1))) (by decide)) <|
  zcons (a := (471, zi_bin (· + ·) 472)) (zs_iadd (M := 197) (pc := 471) (zd_eq zk197 (by decide +kernel : decode cL_law 471 = .ok (.iadd, 1)))) <|
  zcons (a := (472, zi_sld 473)) (zs_sld (M := 197) (pc := 472) (zd_eq zk197 (by decide +kernel : decode cL_law 472 = .ok (.iaload, 1)))) <|
  zcons (a := (473, zi_al 0 474)) (zs_al_n (M := 197) (pc := 473) (zd_eq zk197 (by decide +kernel : decode cL_law 473 = .ok (.aload_n 0, 1)))) <|
  zcons (a := (474, zi_il 3 475)) (zs_il_n (M := 197) (pc := 474) (zd_eq zk197 (by decide +kernel : decode cL_law 474 = .ok (.iload_n 3, 1)))) <|
  zcons (a := (475, zi_k (.int 2) 476)) (zs_iconst (M := 197) (pc := 475) (zd_eq zk197 (by decide +kernel : decode cL_law 475 = .ok (.iconst 2, 1))) (by decide)) <|
  zcons (a := (476, zi_bin (· + ·) 477)) (zs_iadd (M := 197) (pc := 476) (zd_eq zk197 (by decide +kernel : decode cL_law 476 = .ok (.iadd, 1)))) <|
  zcons (a := (477, zi_sld 478)) (zs_sld (M := 197) (pc := 477) (zd_eq zk197 (by decide +kernel : decode cL_law 477 = .ok (.iaload, 1)))) <|
  zcons (a := (478, zi_cv 71 2 6 481 1)) (zs_cv (M := 197) (pc := 478) (M' := 71) (k := 2) (kd := 1) (ci := 6) (q := (RX6, TX6, 14)) (zd_eq zk197 (by decide +kernel : decode cL_law 478 = .ok (.invokevirtual 53, 3))) zWd71 (zl_m zo197 zy71 zw_497) (zl_i zy71 zw_498) (zl_e zy71 zw_499) (by decide) rfl (by rw [zo71])) <|
  zcons (a := (481, zi_al 2 482)) (zs_al_n (M := 197) (pc := 481) (zd_eq zk197 (by decide +kernel : decode cL_law 481 = .ok (.aload_n 2, 1)))) <|
  zcons (a := (482, zi_al 0 483)) (zs_al_n (M := 197) (pc := 482) (zd_eq zk197 (by decide +kernel : decode cL_law 482 = .ok (.aload_n 0, 1)))) <|
  zcons (a := (483, zi_il 3 484)) (zs_il_n (M := 197) (pc := 483) (zd_eq zk197 (by decide +kernel : decode cL_law 483 = .ok (.iload_n 3, 1)))) <|
  zcons (a := (484, zi_k (.int 1) 485)) (zs_iconst (M := 197) (pc := 484) (zd_eq zk197 (by decide +kernel : decode cL_law 484 = .ok (.iconst 1, 1))) (by decide)) <|
  zcons (a := (485, zi_bin (· + ·) 486)) (zs_iadd (M := 197) (pc := 485) (zd_eq zk197 (by decide +kernel : decode cL_law 485 = .ok (.iadd, 1)))) <|
  zcons (a := (486, zi_sld 487)) (zs_sld (M := 197) (pc := 486) (zd_eq zk197 (by decide +kernel : decode cL_law 486 = .ok (.iaload, 1)))) <|
  zcons (a := (487, zi_al 0 488)) (zs_al_n (M := 197) (pc := 487) (zd_eq zk197 (by decide +kernel : decode cL_law 487 = .ok (.aload_n 0, 1)))) <|
  zcons (a := (488, zi_il 3 489)) (zs_il_n (M := 197) (pc := 488) (zd_eq zk197 (by decide +kernel : decode cL_law 488 = .ok (.iload_n 3, 1)))) <|
  zcons (a := (489, zi_k (.int 2) 490)) (zs_iconst (M := 197) (pc := 489) (zd_eq zk197 (by decide +kernel : decode cL_law 489 = .ok (.iconst 2, 1))) (by decide)) <|
  zcons (a := (490, zi_bin (· + ·) 491)) (zs_iadd (M := 197) (pc := 490) (zd_eq zk197 (by decide +kernel : decode cL_law 490 = .ok (.iadd, 1)))) <|
  zcons (a := (491, zi_sld 492)) (zs_sld (M := 197) (pc := 491) (zd_eq zk197 (by decide +kernel : decode cL_law 491 = .ok (.iaload, 1)))) <|
  zcons (a := (492, zi_cv 154 2 7 495 1)) (zs_cv (M := 197) (pc := 492) (M' := 154) (k := 2) (kd := 1) (ci := 7) (q := (RX7, TX7, 26)) (zd_eq zk197 (by decide +kernel : decode cL_law 492 = .ok (.invokevirtual 56, 3))) zWd154 (zl_m zo197 zy154 zw_992) (zl_i zy154 zw_993) (zl_e zy154 zw_994) (by decide) rfl (by rw [zo154])) <|
  zcons (a := (495, zi_b2 (fun x y => x = y) 1512 498)) (zs_icmpeq (M := 197) (pc := 495) (zd_eq zk197 (by decide +kernel : decode cL_law 495 = .ok (.if_icmp .eq 1017, 3))) (by decide)) <| znil
set_option maxRecDepth 100000 in
theorem zS197_10 : ∀ q ∈ zm_c197_10, zm_Snd 197 q.1 q.2 :=
  zcons (a := (498, zi_k (.int 0) 499)) (zs_iconst (M := 197) (pc := 498) (zd_eq zk197 (by decide +kernel : decode cL_law 498 = .ok (.iconst 0, 1))) (by decide)) <|
  zcons (a := (499, zi_rz)) (zs_rz (M := 197) (pc := 499) (zd_eq zk197 (by decide +kernel : decode cL_law 499 = .ok (.ireturn, 1))) rfl) <|
  zcons (a := (500, zi_al 1 501)) (zs_al_n (M := 197) (pc := 500) (zd_eq zk197 (by decide +kernel : decode cL_law 500 = .ok (.aload_n 1, 1)))) <|
  zcons (a := (501, zi_al 0 502)) (zs_al_n (M := 197) (pc := 501) (zd_eq zk197 (by decide +kernel : decode cL_law 501 = .ok (.aload_n 0, 1)))) <|
  zcons (a := (502, zi_il 3 503)) (zs_il_n (M := 197) (pc := 502) (zd_eq zk197 (by decide +kernel : decode cL_law 502 = .ok (.iload_n 3, 1)))) <|
  zcons (a := (503, zi_k (.int 1) 504)) (zs_iconst (M := 197) (pc := 503) (zd_eq zk197 (by decide +kernel : decode cL_law 503 = .ok (.iconst 1, 1))) (by decide)) <|
  zcons (a := (504, zi_bin (· + ·) 505)) (zs_iadd (M := 197) (pc := 504) (zd_eq zk197 (by decide +kernel : decode cL_law 504 = .ok (.iadd, 1)))) <|
  zcons (a := (505, zi_sld 506)) (zs_sld (M := 197) (pc := 505) (zd_eq zk197 (by decide +kernel : decode cL_law 505 = .ok (.iaload, 1)))) <|
  zcons (a := (506, zi_cv 72 1 6 509 1)) (zs_cv (M := 197) (pc := 506) (M' := 72) (k := 1) (kd := 1) (ci := 6) (q := (RX6, TX6, 14)) (zd_eq zk197 (by decide +kernel : decode cL_law 506 = .ok (.invokevirtual 57, 3))) zWd72 (zl_m zo197 zy72 zw_506) (zl_i zy72 zw_507) (zl_e zy72 zw_508) (by decide) rfl (by rw [zo72])) <|
  zcons (a := (509, zi_al 2 510)) (zs_al_n (M := 197) (pc := 509) (zd_eq zk197 (by decide +kernel : decode cL_law 509 = .ok (.aload_n 2, 1)))) <|
  zcons (a := (510, zi_al 0 511)) (zs_al_n (M := 197) (pc := 510) (zd_eq zk197 (by decide +kernel : decode cL_law 510 = .ok (.aload_n 0, 1)))) <|
  zcons (a := (511, zi_il 3 512)) (zs_il_n (M := 197) (pc := 511) (zd_eq zk197 (by decide +kernel : decode cL_law 511 = .ok (.iload_n 3, 1)))) <|
  zcons (a := (512, zi_k (.int 1) 513)) (zs_iconst (M := 197) (pc := 512) (zd_eq zk197 (by decide +kernel : decode cL_law 512 = .ok (.iconst 1, 1))) (by decide)) <|
  zcons (a := (513, zi_bin (· + ·) 514)) (zs_iadd (M := 197) (pc := 513) (zd_eq zk197 (by decide +kernel : decode cL_law 513 = .ok (.iadd, 1)))) <|
  zcons (a := (514, zi_sld 515)) (zs_sld (M := 197) (pc := 514) (zd_eq zk197 (by decide +kernel : decode cL_law 514 = .ok (.iaload, 1)))) <|
  zcons (a := (515, zi_cv 156 1 7 518 1)) (zs_cv (M := 197) (pc := 515) (M' := 156) (k := 1) (kd := 1) (ci := 7) (q := (RX7, TX7, 26)) (zd_eq zk197 (by decide +kernel : decode cL_law 515 = .ok (.invokevirtual 60, 3))) zWd156 (zl_m zo197 zy156 zw_1002) (zl_i zy156 zw_1003) (zl_e zy156 zw_1004) (by decide) rfl (by rw [zo156])) <|
  zcons (a := (518, zi_b2 (fun x y => x = y) 1512 521)) (zs_icmpeq (M := 197) (pc := 518) (zd_eq zk197 (by decide +kernel : decode cL_law 518 = .ok (.if_icmp .eq 994, 3))) (by decide)) <|
  zcons (a := (521, zi_k (.int 0) 522)) (zs_iconst (M := 197) (pc := 521) (zd_eq zk197 (by decide +kernel : decode cL_law 521 = .ok (.iconst 0, 1))) (by decide)) <|
  zcons (a := (522, zi_rz)) (zs_rz (M := 197) (pc := 522) (zd_eq zk197 (by decide +kernel : decode cL_law 522 = .ok (.ireturn, 1))) rfl) <|
  zcons (a := (523, zi_al 1 524)) (zs_al_n (M := 197) (pc := 523) (zd_eq zk197 (by decide +kernel : decode cL_law 523 = .ok (.aload_n 1, 1)))) <|
  zcons (a := (524, zi_al 0 525)) (zs_al_n (M := 197) (pc := 524) (zd_eq zk197 (by decide +kernel : decode cL_law 524 = .ok (.aload_n 0, 1)))) <|
  zcons (a := (525, zi_il 3 526)) (zs_il_n (M := 197) (pc := 525) (zd_eq zk197 (by decide +kernel : decode cL_law 525 = .ok (.iload_n 3, 1)))) <|
  zcons (a := (526, zi_k (.int 1) 527)) (zs_iconst (M := 197) (pc := 526) (zd_eq zk197 (by decide +kernel : decode cL_law 526 = .ok (.iconst 1, 1))) (by decide)) <|
  zcons (a := (527, zi_bin (· + ·) 528)) (zs_iadd (M := 197) (pc := 527) (zd_eq zk197 (by decide +kernel : decode cL_law 527 = .ok (.iadd, 1)))) <| znil
set_option maxRecDepth 100000 in
theorem zS197_11 : ∀ q ∈ zm_c197_11, zm_Snd 197 q.1 q.2 :=
  zcons (a := (528, zi_sld 529)) (zs_sld (M := 197) (pc := 528) (zd_eq zk197 (by decide +kernel : decode cL_law 528 = .ok (.iaload, 1)))) <|
  zcons (a := (529, zi_cv 73 1 6 532 1)) (zs_cv (M := 197) (pc := 529) (M' := 73) (k := 1) (kd := 1) (ci := 6) (q := (RX6, TX6, 14)) (zd_eq zk197 (by decide +kernel : decode cL_law 529 = .ok (.invokevirtual 61, 3))) zWd73 (zl_m zo197 zy73 zw_511) (zl_i zy73 zw_512) (zl_e zy73 zw_513) (by decide) rfl (by rw [zo73])) <|
  zcons (a := (532, zi_al 2 533)) (zs_al_n (M := 197) (pc := 532) (zd_eq zk197 (by decide +kernel : decode cL_law 532 = .ok (.aload_n 2, 1)))) <|
  zcons (a := (533, zi_al 0 534)) (zs_al_n (M := 197) (pc := 533) (zd_eq zk197 (by decide +kernel : decode cL_law 533 = .ok (.aload_n 0, 1)))) <|
  zcons (a := (534, zi_il 3 535)) (zs_il_n (M := 197) (pc := 534) (zd_eq zk197 (by decide +kernel : decode cL_law 534 = .ok (.iload_n 3, 1)))) <|
  zcons (a := (535, zi_k (.int 1) 536)) (zs_iconst (M := 197) (pc := 535) (zd_eq zk197 (by decide +kernel : decode cL_law 535 = .ok (.iconst 1, 1))) (by decide)) <|
  zcons (a := (536, zi_bin (· + ·) 537)) (zs_iadd (M := 197) (pc := 536) (zd_eq zk197 (by decide +kernel : decode cL_law 536 = .ok (.iadd, 1)))) <|
  zcons (a := (537, zi_sld 538)) (zs_sld (M := 197) (pc := 537) (zd_eq zk197 (by decide +kernel : decode cL_law 537 = .ok (.iaload, 1)))) <|
  zcons (a := (538, zi_cv 157 1 7 541 1)) (zs_cv (M := 197) (pc := 538) (M' := 157) (k := 1) (kd := 1) (ci := 7) (q := (RX7, TX7, 26)) (zd_eq zk197 (by decide +kernel : decode cL_law 538 = .ok (.invokevirtual 64, 3))) zWd157 (zl_m zo197 zy157 zw_1010) (zl_i zy157 zw_1011) (zl_e zy157 zw_1012) (by decide) rfl (by rw [zo157])) <|
  zcons (a := (541, zi_b2 (fun x y => x = y) 1512 544)) (zs_icmpeq (M := 197) (pc := 541) (zd_eq zk197 (by decide +kernel : decode cL_law 541 = .ok (.if_icmp .eq 971, 3))) (by decide)) <|
  zcons (a := (544, zi_k (.int 0) 545)) (zs_iconst (M := 197) (pc := 544) (zd_eq zk197 (by decide +kernel : decode cL_law 544 = .ok (.iconst 0, 1))) (by decide)) <|
  zcons (a := (545, zi_rz)) (zs_rz (M := 197) (pc := 545) (zd_eq zk197 (by decide +kernel : decode cL_law 545 = .ok (.ireturn, 1))) rfl) <|
  zcons (a := (546, zi_al 1 547)) (zs_al_n (M := 197) (pc := 546) (zd_eq zk197 (by decide +kernel : decode cL_law 546 = .ok (.aload_n 1, 1)))) <|
  zcons (a := (547, zi_al 0 548)) (zs_al_n (M := 197) (pc := 547) (zd_eq zk197 (by decide +kernel : decode cL_law 547 = .ok (.aload_n 0, 1)))) <|
  zcons (a := (548, zi_il 3 549)) (zs_il_n (M := 197) (pc := 548) (zd_eq zk197 (by decide +kernel : decode cL_law 548 = .ok (.iload_n 3, 1)))) <|
  zcons (a := (549, zi_k (.int 1) 550)) (zs_iconst (M := 197) (pc := 549) (zd_eq zk197 (by decide +kernel : decode cL_law 549 = .ok (.iconst 1, 1))) (by decide)) <|
  zcons (a := (550, zi_bin (· + ·) 551)) (zs_iadd (M := 197) (pc := 550) (zd_eq zk197 (by decide +kernel : decode cL_law 550 = .ok (.iadd, 1)))) <|
  zcons (a := (551, zi_sld 552)) (zs_sld (M := 197) (pc := 551) (zd_eq zk197 (by decide +kernel : decode cL_law 551 = .ok (.iaload, 1)))) <|
  zcons (a := (552, zi_cv 74 1 6 555 1)) (zs_cv (M := 197) (pc := 552) (M' := 74) (k := 1) (kd := 1) (ci := 6) (q := (RX6, TX6, 14)) (zd_eq zk197 (by decide +kernel : decode cL_law 552 = .ok (.invokevirtual 65, 3))) zWd74 (zl_m zo197 zy74 zw_519) (zl_i zy74 zw_520) (zl_e zy74 zw_521) (by decide) rfl (by rw [zo74])) <|
  zcons (a := (555, zi_al 2 556)) (zs_al_n (M := 197) (pc := 555) (zd_eq zk197 (by decide +kernel : decode cL_law 555 = .ok (.aload_n 2, 1)))) <|
  zcons (a := (556, zi_al 0 557)) (zs_al_n (M := 197) (pc := 556) (zd_eq zk197 (by decide +kernel : decode cL_law 556 = .ok (.aload_n 0, 1)))) <|
  zcons (a := (557, zi_il 3 558)) (zs_il_n (M := 197) (pc := 557) (zd_eq zk197 (by decide +kernel : decode cL_law 557 = .ok (.iload_n 3, 1)))) <|
  zcons (a := (558, zi_k (.int 1) 559)) (zs_iconst (M := 197) (pc := 558) (zd_eq zk197 (by decide +kernel : decode cL_law 558 = .ok (.iconst 1, 1))) (by decide)) <|
  zcons (a := (559, zi_bin (· + ·) 560)) (zs_iadd (M := 197) (pc := 559) (zd_eq zk197 (by decide +kernel : decode cL_law 559 = .ok (.iadd, 1)))) <| znil
set_option maxRecDepth 100000 in
theorem zS197_12 : ∀ q ∈ zm_c197_12, zm_Snd 197 q.1 q.2 :=
  zcons (a := (560, zi_sld 561)) (zs_sld (M := 197) (pc := 560) (zd_eq zk197 (by decide +kernel : decode cL_law 560 = .ok (.iaload, 1)))) <|
  zcons (a := (561, zi_cv 158 1 7 564 1)) (zs_cv (M := 197) (pc := 561) (M' := 158) (k := 1) (kd := 1) (ci := 7) (q := (RX7, TX7, 26)) (zd_eq zk197 (by decide +kernel : decode cL_law 561 = .ok (.invokevirtual 68, 3))) zWd158 (zl_m zo197 zy158 zw_1014) (zl_i zy158 zw_1015) (zl_e zy158 zw_1016) (by decide) rfl (by rw [zo158])) <|
  zcons (a := (564, zi_b2 (fun x y => x = y) 1512 567)) (zs_icmpeq (M := 197) (pc := 564) (zd_eq zk197 (by decide +kernel : decode cL_law 564 = .ok (.if_icmp .eq 948, 3))) (by decide)) <|
  zcons (a := (567, zi_k (.int 0) 568)) (zs_iconst (M := 197) (pc := 567) (zd_eq zk197 (by decide +kernel : decode cL_law 567 = .ok (.iconst 0, 1))) (by decide)) <|
  zcons (a := (568, zi_rz)) (zs_rz (M := 197) (pc := 568) (zd_eq zk197 (by decide +kernel : decode cL_law 568 = .ok (.ireturn, 1))) rfl) <|
  zcons (a := (569, zi_al 1 570)) (zs_al_n (M := 197) (pc := 569) (zd_eq zk197 (by decide +kernel : decode cL_law 569 = .ok (.aload_n 1, 1)))) <|
  zcons (a := (570, zi_al 0 571)) (zs_al_n (M := 197) (pc := 570) (zd_eq zk197 (by decide +kernel : decode cL_law 570 = .ok (.aload_n 0, 1)))) <|
  zcons (a := (571, zi_il 3 572)) (zs_il_n (M := 197) (pc := 571) (zd_eq zk197 (by decide +kernel : decode cL_law 571 = .ok (.iload_n 3, 1)))) <|
  zcons (a := (572, zi_k (.int 1) 573)) (zs_iconst (M := 197) (pc := 572) (zd_eq zk197 (by decide +kernel : decode cL_law 572 = .ok (.iconst 1, 1))) (by decide)) <|
  zcons (a := (573, zi_bin (· + ·) 574)) (zs_iadd (M := 197) (pc := 573) (zd_eq zk197 (by decide +kernel : decode cL_law 573 = .ok (.iadd, 1)))) <|
  zcons (a := (574, zi_sld 575)) (zs_sld (M := 197) (pc := 574) (zd_eq zk197 (by decide +kernel : decode cL_law 574 = .ok (.iaload, 1)))) <|
  zcons (a := (575, zi_cv 75 1 6 578 1)) (zs_cv (M := 197) (pc := 575) (M' := 75) (k := 1) (kd := 1) (ci := 6) (q := (RX6, TX6, 14)) (zd_eq zk197 (by decide +kernel : decode cL_law 575 = .ok (.invokevirtual 69, 3))) zWd75 (zl_m zo197 zy75 zw_523) (zl_i zy75 zw_524) (zl_e zy75 zw_525) (by decide) rfl (by rw [zo75])) <|
  zcons (a := (578, zi_al 2 579)) (zs_al_n (M := 197) (pc := 578) (zd_eq zk197 (by decide +kernel : decode cL_law 578 = .ok (.aload_n 2, 1)))) <|
  zcons (a := (579, zi_al 0 580)) (zs_al_n (M := 197) (pc := 579) (zd_eq zk197 (by decide +kernel : decode cL_law 579 = .ok (.aload_n 0, 1)))) <|
  zcons (a := (580, zi_il 3 581)) (zs_il_n (M := 197) (pc := 580) (zd_eq zk197 (by decide +kernel : decode cL_law 580 = .ok (.iload_n 3, 1)))) <|
  zcons (a := (581, zi_k (.int 1) 582)) (zs_iconst (M := 197) (pc := 581) (zd_eq zk197 (by decide +kernel : decode cL_law 581 = .ok (.iconst 1, 1))) (by decide)) <|
  zcons (a := (582, zi_bin (· + ·) 583)) (zs_iadd (M := 197) (pc := 582) (zd_eq zk197 (by decide +kernel : decode cL_law 582 = .ok (.iadd, 1)))) <|
  zcons (a := (583, zi_sld 584)) (zs_sld (M := 197) (pc := 583) (zd_eq zk197 (by decide +kernel : decode cL_law 583 = .ok (.iaload, 1)))) <|
  zcons (a := (584, zi_cv 159 1 7 587 1)) (zs_cv (M := 197) (pc := 584) (M' := 159) (k := 1) (kd := 1) (ci := 7) (q := (RX7, TX7, 26)) (zd_eq zk197 (by decide +kernel : decode cL_law 584 = .ok (.invokevirtual 72, 3))) zWd159 (zl_m zo197 zy159 zw_1018) (zl_i zy159 zw_1019) (zl_e zy159 zw_1020) (by decide) rfl (by rw [zo159])) <|
  zcons (a := (587, zi_b2 (fun x y => x = y) 1512 590)) (zs_icmpeq (M := 197) (pc := 587) (zd_eq zk197 (by decide +kernel : decode cL_law 587 = .ok (.if_icmp .eq 925, 3))) (by decide)) <|
  zcons (a := (590, zi_k (.int 0) 591)) (zs_iconst (M := 197) (pc := 590) (zd_eq zk197 (by decide +kernel : decode cL_law 590 = .ok (.iconst 0, 1))) (by decide)) <|
  zcons (a := (591, zi_rz)) (zs_rz (M := 197) (pc := 591) (zd_eq zk197 (by decide +kernel : decode cL_law 591 = .ok (.ireturn, 1))) rfl) <|
  zcons (a := (592, zi_al 1 593)) (zs_al_n (M := 197) (pc := 592) (zd_eq zk197 (by decide +kernel : decode cL_law 592 = .ok (.aload_n 1, 1)))) <|
  zcons (a := (593, zi_al 0 594)) (zs_al_n (M := 197) (pc := 593) (zd_eq zk197 (by decide +kernel : decode cL_law 593 = .ok (.aload_n 0, 1)))) <| znil
set_option maxRecDepth 100000 in
theorem zS197_13 : ∀ q ∈ zm_c197_13, zm_Snd 197 q.1 q.2 :=
  zcons (a := (594, zi_il 3 595)) (zs_il_n (M := 197) (pc := 594) (zd_eq zk197 (by decide +kernel : decode cL_law 594 = .ok (.iload_n 3, 1)))) <|
  zcons (a := (595, zi_k (.int 1) 596)) (zs_iconst (M := 197) (pc := 595) (zd_eq zk197 (by decide +kernel : decode cL_law 595 = .ok (.iconst 1, 1))) (by decide)) <|
  zcons (a := (596, zi_bin (· + ·) 597)) (zs_iadd (M := 197) (pc := 596) (zd_eq zk197 (by decide +kernel : decode cL_law 596 = .ok (.iadd, 1)))) <|
  zcons (a := (597, zi_sld 598)) (zs_sld (M := 197) (pc := 597) (zd_eq zk197 (by decide +kernel : decode cL_law 597 = .ok (.iaload, 1)))) <|
  zcons (a := (598, zi_al 0 599)) (zs_al_n (M := 197) (pc := 598) (zd_eq zk197 (by decide +kernel : decode cL_law 598 = .ok (.aload_n 0, 1)))) <|
  zcons (a := (599, zi_il 3 600)) (zs_il_n (M := 197) (pc := 599) (zd_eq zk197 (by decide +kernel : decode cL_law 599 = .ok (.iload_n 3, 1)))) <|
  zcons (a := (600, zi_k (.int 2) 601)) (zs_iconst (M := 197) (pc := 600) (zd_eq zk197 (by decide +kernel : decode cL_law 600 = .ok (.iconst 2, 1))) (by decide)) <|
  zcons (a := (601, zi_bin (· + ·) 602)) (zs_iadd (M := 197) (pc := 601) (zd_eq zk197 (by decide +kernel : decode cL_law 601 = .ok (.iadd, 1)))) <|
  zcons (a := (602, zi_sld 603)) (zs_sld (M := 197) (pc := 602) (zd_eq zk197 (by decide +kernel : decode cL_law 602 = .ok (.iaload, 1)))) <|
  zcons (a := (603, zi_cv 76 2 6 606 1)) (zs_cv (M := 197) (pc := 603) (M' := 76) (k := 2) (kd := 1) (ci := 6) (q := (RX6, TX6, 14)) (zd_eq zk197 (by decide +kernel : decode cL_law 603 = .ok (.invokevirtual 73, 3))) zWd76 (zl_m zo197 zy76 zw_567) (zl_i zy76 zw_568) (zl_e zy76 zw_569) (by decide) rfl (by rw [zo76])) <|
  zcons (a := (606, zi_al 2 607)) (zs_al_n (M := 197) (pc := 606) (zd_eq zk197 (by decide +kernel : decode cL_law 606 = .ok (.aload_n 2, 1)))) <|
  zcons (a := (607, zi_al 0 608)) (zs_al_n (M := 197) (pc := 607) (zd_eq zk197 (by decide +kernel : decode cL_law 607 = .ok (.aload_n 0, 1)))) <|
  zcons (a := (608, zi_il 3 609)) (zs_il_n (M := 197) (pc := 608) (zd_eq zk197 (by decide +kernel : decode cL_law 608 = .ok (.iload_n 3, 1)))) <|
  zcons (a := (609, zi_k (.int 1) 610)) (zs_iconst (M := 197) (pc := 609) (zd_eq zk197 (by decide +kernel : decode cL_law 609 = .ok (.iconst 1, 1))) (by decide)) <|
  zcons (a := (610, zi_bin (· + ·) 611)) (zs_iadd (M := 197) (pc := 610) (zd_eq zk197 (by decide +kernel : decode cL_law 610 = .ok (.iadd, 1)))) <|
  zcons (a := (611, zi_sld 612)) (zs_sld (M := 197) (pc := 611) (zd_eq zk197 (by decide +kernel : decode cL_law 611 = .ok (.iaload, 1)))) <|
  zcons (a := (612, zi_al 0 613)) (zs_al_n (M := 197) (pc := 612) (zd_eq zk197 (by decide +kernel : decode cL_law 612 = .ok (.aload_n 0, 1)))) <|
  zcons (a := (613, zi_il 3 614)) (zs_il_n (M := 197) (pc := 613) (zd_eq zk197 (by decide +kernel : decode cL_law 613 = .ok (.iload_n 3, 1)))) <|
  zcons (a := (614, zi_k (.int 2) 615)) (zs_iconst (M := 197) (pc := 614) (zd_eq zk197 (by decide +kernel : decode cL_law 614 = .ok (.iconst 2, 1))) (by decide)) <|
  zcons (a := (615, zi_bin (· + ·) 616)) (zs_iadd (M := 197) (pc := 615) (zd_eq zk197 (by decide +kernel : decode cL_law 615 = .ok (.iadd, 1)))) <|
  zcons (a := (616, zi_sld 617)) (zs_sld (M := 197) (pc := 616) (zd_eq zk197 (by decide +kernel : decode cL_law 616 = .ok (.iaload, 1)))) <|
  zcons (a := (617, zi_cv 162 2 7 620 1)) (zs_cv (M := 197) (pc := 617) (M' := 162) (k := 2) (kd := 1) (ci := 7) (q := (RX7, TX7, 26)) (zd_eq zk197 (by decide +kernel : decode cL_law 617 = .ok (.invokevirtual 76, 3))) zWd162 (zl_m zo197 zy162 zw_1034) (zl_i zy162 zw_1035) (zl_e zy162 zw_1036) (by decide) rfl (by rw [zo162])) <|
  zcons (a := (620, zi_b2 (fun x y => x = y) 1512 623)) (zs_icmpeq (M := 197) (pc := 620) (zd_eq zk197 (by decide +kernel : decode cL_law 620 = .ok (.if_icmp .eq 892, 3))) (by decide)) <|
  zcons (a := (623, zi_k (.int 0) 624)) (zs_iconst (M := 197) (pc := 623) (zd_eq zk197 (by decide +kernel : decode cL_law 623 = .ok (.iconst 0, 1))) (by decide)) <| znil
set_option maxRecDepth 100000 in
theorem zS197_14 : ∀ q ∈ zm_c197_14, zm_Snd 197 q.1 q.2 :=
  zcons (a := (624, zi_rz)) (zs_rz (M := 197) (pc := 624) (zd_eq zk197 (by decide +kernel : decode cL_law 624 = .ok (.ireturn, 1))) rfl) <|
  zcons (a := (625, zi_al 1 626)) (zs_al_n (M := 197) (pc := 625) (zd_eq zk197 (by decide +kernel : decode cL_law 625 = .ok (.aload_n 1, 1)))) <|
  zcons (a := (626, zi_al 0 627)) (zs_al_n (M := 197) (pc := 626) (zd_eq zk197 (by decide +kernel : decode cL_law 626 = .ok (.aload_n 0, 1)))) <|
  zcons (a := (627, zi_il 3 628)) (zs_il_n (M := 197) (pc := 627) (zd_eq zk197 (by decide +kernel : decode cL_law 627 = .ok (.iload_n 3, 1)))) <|
  zcons (a := (628, zi_k (.int 1) 629)) (zs_iconst (M := 197) (pc := 628) (zd_eq zk197 (by decide +kernel : decode cL_law 628 = .ok (.iconst 1, 1))) (by decide)) <|
  zcons (a := (629, zi_bin (· + ·) 630)) (zs_iadd (M := 197) (pc := 629) (zd_eq zk197 (by decide +kernel : decode cL_law 629 = .ok (.iadd, 1)))) <|
  zcons (a := (630, zi_sld 631)) (zs_sld (M := 197) (pc := 630) (zd_eq zk197 (by decide +kernel : decode cL_law 630 = .ok (.iaload, 1)))) <|
  zcons (a := (631, zi_al 0 632)) (zs_al_n (M := 197) (pc := 631) (zd_eq zk197 (by decide +kernel : decode cL_law 631 = .ok (.aload_n 0, 1)))) <|
  zcons (a := (632, zi_il 3 633)) (zs_il_n (M := 197) (pc := 632) (zd_eq zk197 (by decide +kernel : decode cL_law 632 = .ok (.iload_n 3, 1)))) <|
  zcons (a := (633, zi_k (.int 2) 634)) (zs_iconst (M := 197) (pc := 633) (zd_eq zk197 (by decide +kernel : decode cL_law 633 = .ok (.iconst 2, 1))) (by decide)) <|
  zcons (a := (634, zi_bin (· + ·) 635)) (zs_iadd (M := 197) (pc := 634) (zd_eq zk197 (by decide +kernel : decode cL_law 634 = .ok (.iadd, 1)))) <|
  zcons (a := (635, zi_sld 636)) (zs_sld (M := 197) (pc := 635) (zd_eq zk197 (by decide +kernel : decode cL_law 635 = .ok (.iaload, 1)))) <|
  zcons (a := (636, zi_al 0 637)) (zs_al_n (M := 197) (pc := 636) (zd_eq zk197 (by decide +kernel : decode cL_law 636 = .ok (.aload_n 0, 1)))) <|
  zcons (a := (637, zi_il 3 638)) (zs_il_n (M := 197) (pc := 637) (zd_eq zk197 (by decide +kernel : decode cL_law 637 = .ok (.iload_n 3, 1)))) <|
  zcons (a := (638, zi_k (.int 3) 639)) (zs_iconst (M := 197) (pc := 638) (zd_eq zk197 (by decide +kernel : decode cL_law 638 = .ok (.iconst 3, 1))) (by decide)) <|
  zcons (a := (639, zi_bin (· + ·) 640)) (zs_iadd (M := 197) (pc := 639) (zd_eq zk197 (by decide +kernel : decode cL_law 639 = .ok (.iadd, 1)))) <|
  zcons (a := (640, zi_sld 641)) (zs_sld (M := 197) (pc := 640) (zd_eq zk197 (by decide +kernel : decode cL_law 640 = .ok (.iaload, 1)))) <|
  zcons (a := (641, zi_cv 77 3 6 644 1)) (zs_cv (M := 197) (pc := 641) (M' := 77) (k := 3) (kd := 1) (ci := 6) (q := (RX6, TX6, 14)) (zd_eq zk197 (by decide +kernel : decode cL_law 641 = .ok (.invokevirtual 77, 3))) zWd77 (zl_m zo197 zy77 zw_584) (zl_i zy77 zw_585) (zl_e zy77 zw_586) (by decide) rfl (by rw [zo77])) <|
  zcons (a := (644, zi_al 2 645)) (zs_al_n (M := 197) (pc := 644) (zd_eq zk197 (by decide +kernel : decode cL_law 644 = .ok (.aload_n 2, 1)))) <|
  zcons (a := (645, zi_al 0 646)) (zs_al_n (M := 197) (pc := 645) (zd_eq zk197 (by decide +kernel : decode cL_law 645 = .ok (.aload_n 0, 1)))) <|
  zcons (a := (646, zi_il 3 647)) (zs_il_n (M := 197) (pc := 646) (zd_eq zk197 (by decide +kernel : decode cL_law 646 = .ok (.iload_n 3, 1)))) <|
  zcons (a := (647, zi_k (.int 1) 648)) (zs_iconst (M := 197) (pc := 647) (zd_eq zk197 (by decide +kernel : decode cL_law 647 = .ok (.iconst 1, 1))) (by decide)) <|
  zcons (a := (648, zi_bin (· + ·) 649)) (zs_iadd (M := 197) (pc := 648) (zd_eq zk197 (by decide +kernel : decode cL_law 648 = .ok (.iadd, 1)))) <|
  zcons (a := (649, zi_sld 650)) (zs_sld (M := 197) (pc := 649) (zd_eq zk197 (by decide +kernel : decode cL_law 649 = .ok (.iaload, 1)))) <| znil
set_option maxRecDepth 100000 in
theorem zS197_15 : ∀ q ∈ zm_c197_15, zm_Snd 197 q.1 q.2 :=
  zcons (a := (650, zi_al 0 651)) (zs_al_n (M := 197) (pc := 650) (zd_eq zk197 (by decide +kernel : decode cL_law 650 = .ok (.aload_n 0, 1)))) <|
  zcons (a := (651, zi_il 3 652)) (zs_il_n (M := 197) (pc := 651) (zd_eq zk197 (by decide +kernel : decode cL_law 651 = .ok (.iload_n 3, 1)))) <|
  zcons (a := (652, zi_k (.int 2) 653)) (zs_iconst (M := 197) (pc := 652) (zd_eq zk197 (by decide +kernel : decode cL_law 652 = .ok (.iconst 2, 1))) (by decide)) <|
  zcons (a := (653, zi_bin (· + ·) 654)) (zs_iadd (M := 197) (pc := 653) (zd_eq zk197 (by decide +kernel : decode cL_law 653 = .ok (.iadd, 1)))) <|
  zcons (a := (654, zi_sld 655)) (zs_sld (M := 197) (pc := 654) (zd_eq zk197 (by decide +kernel : decode cL_law 654 = .ok (.iaload, 1)))) <|
  zcons (a := (655, zi_al 0 656)) (zs_al_n (M := 197) (pc := 655) (zd_eq zk197 (by decide +kernel : decode cL_law 655 = .ok (.aload_n 0, 1)))) <|
  zcons (a := (656, zi_il 3 657)) (zs_il_n (M := 197) (pc := 656) (zd_eq zk197 (by decide +kernel : decode cL_law 656 = .ok (.iload_n 3, 1)))) <|
  zcons (a := (657, zi_k (.int 3) 658)) (zs_iconst (M := 197) (pc := 657) (zd_eq zk197 (by decide +kernel : decode cL_law 657 = .ok (.iconst 3, 1))) (by decide)) <|
  zcons (a := (658, zi_bin (· + ·) 659)) (zs_iadd (M := 197) (pc := 658) (zd_eq zk197 (by decide +kernel : decode cL_law 658 = .ok (.iadd, 1)))) <|
  zcons (a := (659, zi_sld 660)) (zs_sld (M := 197) (pc := 659) (zd_eq zk197 (by decide +kernel : decode cL_law 659 = .ok (.iaload, 1)))) <|
  zcons (a := (660, zi_cv 163 3 7 663 1)) (zs_cv (M := 197) (pc := 660) (M' := 163) (k := 3) (kd := 1) (ci := 7) (q := (RX7, TX7, 26)) (zd_eq zk197 (by decide +kernel : decode cL_law 660 = .ok (.invokevirtual 80, 3))) zWd163 (zl_m zo197 zy163 zw_1047) (zl_i zy163 zw_1048) (zl_e zy163 zw_1049) (by decide) rfl (by rw [zo163])) <|
  zcons (a := (663, zi_b2 (fun x y => x = y) 1512 666)) (zs_icmpeq (M := 197) (pc := 663) (zd_eq zk197 (by decide +kernel : decode cL_law 663 = .ok (.if_icmp .eq 849, 3))) (by decide)) <|
  zcons (a := (666, zi_k (.int 0) 667)) (zs_iconst (M := 197) (pc := 666) (zd_eq zk197 (by decide +kernel : decode cL_law 666 = .ok (.iconst 0, 1))) (by decide)) <|
  zcons (a := (667, zi_rz)) (zs_rz (M := 197) (pc := 667) (zd_eq zk197 (by decide +kernel : decode cL_law 667 = .ok (.ireturn, 1))) rfl) <|
  zcons (a := (668, zi_al 1 669)) (zs_al_n (M := 197) (pc := 668) (zd_eq zk197 (by decide +kernel : decode cL_law 668 = .ok (.aload_n 1, 1)))) <|
  zcons (a := (669, zi_al 0 670)) (zs_al_n (M := 197) (pc := 669) (zd_eq zk197 (by decide +kernel : decode cL_law 669 = .ok (.aload_n 0, 1)))) <|
  zcons (a := (670, zi_il 3 671)) (zs_il_n (M := 197) (pc := 670) (zd_eq zk197 (by decide +kernel : decode cL_law 670 = .ok (.iload_n 3, 1)))) <|
  zcons (a := (671, zi_k (.int 1) 672)) (zs_iconst (M := 197) (pc := 671) (zd_eq zk197 (by decide +kernel : decode cL_law 671 = .ok (.iconst 1, 1))) (by decide)) <|
  zcons (a := (672, zi_bin (· + ·) 673)) (zs_iadd (M := 197) (pc := 672) (zd_eq zk197 (by decide +kernel : decode cL_law 672 = .ok (.iadd, 1)))) <|
  zcons (a := (673, zi_sld 674)) (zs_sld (M := 197) (pc := 673) (zd_eq zk197 (by decide +kernel : decode cL_law 673 = .ok (.iaload, 1)))) <|
  zcons (a := (674, zi_cv 78 1 6 677 1)) (zs_cv (M := 197) (pc := 674) (M' := 78) (k := 1) (kd := 1) (ci := 6) (q := (RX6, TX6, 14)) (zd_eq zk197 (by decide +kernel : decode cL_law 674 = .ok (.invokevirtual 81, 3))) zWd78 (zl_m zo197 zy78 zw_588) (zl_i zy78 zw_589) (zl_e zy78 zw_590) (by decide) rfl (by rw [zo78])) <|
  zcons (a := (677, zi_al 2 678)) (zs_al_n (M := 197) (pc := 677) (zd_eq zk197 (by decide +kernel : decode cL_law 677 = .ok (.aload_n 2, 1)))) <|
  zcons (a := (678, zi_al 0 679)) (zs_al_n (M := 197) (pc := 678) (zd_eq zk197 (by decide +kernel : decode cL_law 678 = .ok (.aload_n 0, 1)))) <|
  zcons (a := (679, zi_il 3 680)) (zs_il_n (M := 197) (pc := 679) (zd_eq zk197 (by decide +kernel : decode cL_law 679 = .ok (.iload_n 3, 1)))) <| znil
set_option maxRecDepth 100000 in
theorem zS197_16 : ∀ q ∈ zm_c197_16, zm_Snd 197 q.1 q.2 :=
  zcons (a := (680, zi_k (.int 1) 681)) (zs_iconst (M := 197) (pc := 680) (zd_eq zk197 (by decide +kernel : decode cL_law 680 = .ok (.iconst 1, 1))) (by decide)) <|
  zcons (a := (681, zi_bin (· + ·) 682)) (zs_iadd (M := 197) (pc := 681) (zd_eq zk197 (by decide +kernel : decode cL_law 681 = .ok (.iadd, 1)))) <|
  zcons (a := (682, zi_sld 683)) (zs_sld (M := 197) (pc := 682) (zd_eq zk197 (by decide +kernel : decode cL_law 682 = .ok (.iaload, 1)))) <|
  zcons (a := (683, zi_cv 165 1 7 686 1)) (zs_cv (M := 197) (pc := 683) (M' := 165) (k := 1) (kd := 1) (ci := 7) (q := (RX7, TX7, 26)) (zd_eq zk197 (by decide +kernel : decode cL_law 683 = .ok (.invokevirtual 84, 3))) zWd165 (zl_m zo197 zy165 zw_1051) (zl_i zy165 zw_1052) (zl_e zy165 zw_1053) (by decide) rfl (by rw [zo165])) <|
  zcons (a := (686, zi_b2 (fun x y => x = y) 1512 689)) (zs_icmpeq (M := 197) (pc := 686) (zd_eq zk197 (by decide +kernel : decode cL_law 686 = .ok (.if_icmp .eq 826, 3))) (by decide)) <|
  zcons (a := (689, zi_k (.int 0) 690)) (zs_iconst (M := 197) (pc := 689) (zd_eq zk197 (by decide +kernel : decode cL_law 689 = .ok (.iconst 0, 1))) (by decide)) <|
  zcons (a := (690, zi_rz)) (zs_rz (M := 197) (pc := 690) (zd_eq zk197 (by decide +kernel : decode cL_law 690 = .ok (.ireturn, 1))) rfl) <|
  zcons (a := (691, zi_al 1 692)) (zs_al_n (M := 197) (pc := 691) (zd_eq zk197 (by decide +kernel : decode cL_law 691 = .ok (.aload_n 1, 1)))) <|
  zcons (a := (692, zi_al 0 693)) (zs_al_n (M := 197) (pc := 692) (zd_eq zk197 (by decide +kernel : decode cL_law 692 = .ok (.aload_n 0, 1)))) <|
  zcons (a := (693, zi_il 3 694)) (zs_il_n (M := 197) (pc := 693) (zd_eq zk197 (by decide +kernel : decode cL_law 693 = .ok (.iload_n 3, 1)))) <|
  zcons (a := (694, zi_k (.int 1) 695)) (zs_iconst (M := 197) (pc := 694) (zd_eq zk197 (by decide +kernel : decode cL_law 694 = .ok (.iconst 1, 1))) (by decide)) <|
  zcons (a := (695, zi_bin (· + ·) 696)) (zs_iadd (M := 197) (pc := 695) (zd_eq zk197 (by decide +kernel : decode cL_law 695 = .ok (.iadd, 1)))) <|
  zcons (a := (696, zi_sld 697)) (zs_sld (M := 197) (pc := 696) (zd_eq zk197 (by decide +kernel : decode cL_law 696 = .ok (.iaload, 1)))) <|
  zcons (a := (697, zi_al 0 698)) (zs_al_n (M := 197) (pc := 697) (zd_eq zk197 (by decide +kernel : decode cL_law 697 = .ok (.aload_n 0, 1)))) <|
  zcons (a := (698, zi_il 3 699)) (zs_il_n (M := 197) (pc := 698) (zd_eq zk197 (by decide +kernel : decode cL_law 698 = .ok (.iload_n 3, 1)))) <|
  zcons (a := (699, zi_k (.int 2) 700)) (zs_iconst (M := 197) (pc := 699) (zd_eq zk197 (by decide +kernel : decode cL_law 699 = .ok (.iconst 2, 1))) (by decide)) <|
  zcons (a := (700, zi_bin (· + ·) 701)) (zs_iadd (M := 197) (pc := 700) (zd_eq zk197 (by decide +kernel : decode cL_law 700 = .ok (.iadd, 1)))) <|
  zcons (a := (701, zi_sld 702)) (zs_sld (M := 197) (pc := 701) (zd_eq zk197 (by decide +kernel : decode cL_law 701 = .ok (.iaload, 1)))) <|
  zcons (a := (702, zi_al 0 703)) (zs_al_n (M := 197) (pc := 702) (zd_eq zk197 (by decide +kernel : decode cL_law 702 = .ok (.aload_n 0, 1)))) <|
  zcons (a := (703, zi_il 3 704)) (zs_il_n (M := 197) (pc := 703) (zd_eq zk197 (by decide +kernel : decode cL_law 703 = .ok (.iload_n 3, 1)))) <|
  zcons (a := (704, zi_k (.int 3) 705)) (zs_iconst (M := 197) (pc := 704) (zd_eq zk197 (by decide +kernel : decode cL_law 704 = .ok (.iconst 3, 1))) (by decide)) <|
  zcons (a := (705, zi_bin (· + ·) 706)) (zs_iadd (M := 197) (pc := 705) (zd_eq zk197 (by decide +kernel : decode cL_law 705 = .ok (.iadd, 1)))) <|
  zcons (a := (706, zi_sld 707)) (zs_sld (M := 197) (pc := 706) (zd_eq zk197 (by decide +kernel : decode cL_law 706 = .ok (.iaload, 1)))) <|
  zcons (a := (707, zi_cv 79 3 6 710 2)) (zs_cv (M := 197) (pc := 707) (M' := 79) (k := 3) (kd := 2) (ci := 6) (q := (RX6, TX6, 14)) (zd_eq zk197 (by decide +kernel : decode cL_law 707 = .ok (.invokevirtual 85, 3))) zWd79 (zl_m zo197 zy79 zw_598) (zl_i zy79 zw_599) (zl_e zy79 zw_600) (by decide) rfl (by rw [zo79])) <| znil
set_option maxRecDepth 100000 in
theorem zS197_17 : ∀ q ∈ zm_c197_17, zm_Snd 197 q.1 q.2 :=
  zcons (a := (710, zi_al 2 711)) (zs_al_n (M := 197) (pc := 710) (zd_eq zk197 (by decide +kernel : decode cL_law 710 = .ok (.aload_n 2, 1)))) <|
  zcons (a := (711, zi_al 0 712)) (zs_al_n (M := 197) (pc := 711) (zd_eq zk197 (by decide +kernel : decode cL_law 711 = .ok (.aload_n 0, 1)))) <|
  zcons (a := (712, zi_il 3 713)) (zs_il_n (M := 197) (pc := 712) (zd_eq zk197 (by decide +kernel : decode cL_law 712 = .ok (.iload_n 3, 1)))) <|
  zcons (a := (713, zi_k (.int 1) 714)) (zs_iconst (M := 197) (pc := 713) (zd_eq zk197 (by decide +kernel : decode cL_law 713 = .ok (.iconst 1, 1))) (by decide)) <|
  zcons (a := (714, zi_bin (· + ·) 715)) (zs_iadd (M := 197) (pc := 714) (zd_eq zk197 (by decide +kernel : decode cL_law 714 = .ok (.iadd, 1)))) <|
  zcons (a := (715, zi_sld 716)) (zs_sld (M := 197) (pc := 715) (zd_eq zk197 (by decide +kernel : decode cL_law 715 = .ok (.iaload, 1)))) <|
  zcons (a := (716, zi_al 0 717)) (zs_al_n (M := 197) (pc := 716) (zd_eq zk197 (by decide +kernel : decode cL_law 716 = .ok (.aload_n 0, 1)))) <|
  zcons (a := (717, zi_il 3 718)) (zs_il_n (M := 197) (pc := 717) (zd_eq zk197 (by decide +kernel : decode cL_law 717 = .ok (.iload_n 3, 1)))) <|
  zcons (a := (718, zi_k (.int 2) 719)) (zs_iconst (M := 197) (pc := 718) (zd_eq zk197 (by decide +kernel : decode cL_law 718 = .ok (.iconst 2, 1))) (by decide)) <|
  zcons (a := (719, zi_bin (· + ·) 720)) (zs_iadd (M := 197) (pc := 719) (zd_eq zk197 (by decide +kernel : decode cL_law 719 = .ok (.iadd, 1)))) <|
  zcons (a := (720, zi_sld 721)) (zs_sld (M := 197) (pc := 720) (zd_eq zk197 (by decide +kernel : decode cL_law 720 = .ok (.iaload, 1)))) <|
  zcons (a := (721, zi_al 0 722)) (zs_al_n (M := 197) (pc := 721) (zd_eq zk197 (by decide +kernel : decode cL_law 721 = .ok (.aload_n 0, 1)))) <|
  zcons (a := (722, zi_il 3 723)) (zs_il_n (M := 197) (pc := 722) (zd_eq zk197 (by decide +kernel : decode cL_law 722 = .ok (.iload_n 3, 1)))) <|
  zcons (a := (723, zi_k (.int 3) 724)) (zs_iconst (M := 197) (pc := 723) (zd_eq zk197 (by decide +kernel : decode cL_law 723 = .ok (.iconst 3, 1))) (by decide)) <|
  zcons (a := (724, zi_bin (· + ·) 725)) (zs_iadd (M := 197) (pc := 724) (zd_eq zk197 (by decide +kernel : decode cL_law 724 = .ok (.iadd, 1)))) <|
  zcons (a := (725, zi_sld 726)) (zs_sld (M := 197) (pc := 725) (zd_eq zk197 (by decide +kernel : decode cL_law 725 = .ok (.iaload, 1)))) <|
  zcons (a := (726, zi_cv 167 3 7 729 2)) (zs_cv (M := 197) (pc := 726) (M' := 167) (k := 3) (kd := 2) (ci := 7) (q := (RX7, TX7, 26)) (zd_eq zk197 (by decide +kernel : decode cL_law 726 = .ok (.invokevirtual 89, 3))) zWd167 (zl_m zo197 zy167 zw_1059) (zl_i zy167 zw_1060) (zl_e zy167 zw_1061) (by decide) rfl (by rw [zo167])) <|
  zcons (a := (729, zi_lcmp 730)) (zs_lcmp (M := 197) (pc := 729) (zd_eq zk197 (by decide +kernel : decode cL_law 729 = .ok (.lcmp, 1)))) <|
  zcons (a := (730, zi_b1 (fun x => x = 0) 1512 733)) (zs_ifeq (M := 197) (pc := 730) (zd_eq zk197 (by decide +kernel : decode cL_law 730 = .ok (.ifCond .eq 782, 3))) (by decide)) <|
  zcons (a := (733, zi_k (.int 0) 734)) (zs_iconst (M := 197) (pc := 733) (zd_eq zk197 (by decide +kernel : decode cL_law 733 = .ok (.iconst 0, 1))) (by decide)) <|
  zcons (a := (734, zi_rz)) (zs_rz (M := 197) (pc := 734) (zd_eq zk197 (by decide +kernel : decode cL_law 734 = .ok (.ireturn, 1))) rfl) <|
  zcons (a := (735, zi_al 1 736)) (zs_al_n (M := 197) (pc := 735) (zd_eq zk197 (by decide +kernel : decode cL_law 735 = .ok (.aload_n 1, 1)))) <|
  zcons (a := (736, zi_al 0 737)) (zs_al_n (M := 197) (pc := 736) (zd_eq zk197 (by decide +kernel : decode cL_law 736 = .ok (.aload_n 0, 1)))) <|
  zcons (a := (737, zi_il 3 738)) (zs_il_n (M := 197) (pc := 737) (zd_eq zk197 (by decide +kernel : decode cL_law 737 = .ok (.iload_n 3, 1)))) <| znil
set_option maxRecDepth 100000 in
theorem zS197_18 : ∀ q ∈ zm_c197_18, zm_Snd 197 q.1 q.2 :=
  zcons (a := (738, zi_k (.int 1) 739)) (zs_iconst (M := 197) (pc := 738) (zd_eq zk197 (by decide +kernel : decode cL_law 738 = .ok (.iconst 1, 1))) (by decide)) <|
  zcons (a := (739, zi_bin (· + ·) 740)) (zs_iadd (M := 197) (pc := 739) (zd_eq zk197 (by decide +kernel : decode cL_law 739 = .ok (.iadd, 1)))) <|
  zcons (a := (740, zi_sld 741)) (zs_sld (M := 197) (pc := 740) (zd_eq zk197 (by decide +kernel : decode cL_law 740 = .ok (.iaload, 1)))) <|
  zcons (a := (741, zi_cv 80 1 6 744 1)) (zs_cv (M := 197) (pc := 741) (M' := 80) (k := 1) (kd := 1) (ci := 6) (q := (RX6, TX6, 14)) (zd_eq zk197 (by decide +kernel : decode cL_law 741 = .ok (.invokevirtual 90, 3))) zWd80 (zl_m zo197 zy80 zw_607) (zl_i zy80 zw_608) (zl_e zy80 zw_609) (by decide) rfl (by rw [zo80])) <|
  zcons (a := (744, zi_al 2 745)) (zs_al_n (M := 197) (pc := 744) (zd_eq zk197 (by decide +kernel : decode cL_law 744 = .ok (.aload_n 2, 1)))) <|
  zcons (a := (745, zi_al 0 746)) (zs_al_n (M := 197) (pc := 745) (zd_eq zk197 (by decide +kernel : decode cL_law 745 = .ok (.aload_n 0, 1)))) <|
  zcons (a := (746, zi_il 3 747)) (zs_il_n (M := 197) (pc := 746) (zd_eq zk197 (by decide +kernel : decode cL_law 746 = .ok (.iload_n 3, 1)))) <|
  zcons (a := (747, zi_k (.int 1) 748)) (zs_iconst (M := 197) (pc := 747) (zd_eq zk197 (by decide +kernel : decode cL_law 747 = .ok (.iconst 1, 1))) (by decide)) <|
  zcons (a := (748, zi_bin (· + ·) 749)) (zs_iadd (M := 197) (pc := 748) (zd_eq zk197 (by decide +kernel : decode cL_law 748 = .ok (.iadd, 1)))) <|
  zcons (a := (749, zi_sld 750)) (zs_sld (M := 197) (pc := 749) (zd_eq zk197 (by decide +kernel : decode cL_law 749 = .ok (.iaload, 1)))) <|
  zcons (a := (750, zi_cv 168 1 7 753 1)) (zs_cv (M := 197) (pc := 750) (M' := 168) (k := 1) (kd := 1) (ci := 7) (q := (RX7, TX7, 26)) (zd_eq zk197 (by decide +kernel : decode cL_law 750 = .ok (.invokevirtual 93, 3))) zWd168 (zl_m zo197 zy168 zw_1067) (zl_i zy168 zw_1068) (zl_e zy168 zw_1069) (by decide) rfl (by rw [zo168])) <|
  zcons (a := (753, zi_b2 (fun x y => x = y) 1512 756)) (zs_icmpeq (M := 197) (pc := 753) (zd_eq zk197 (by decide +kernel : decode cL_law 753 = .ok (.if_icmp .eq 759, 3))) (by decide)) <|
  zcons (a := (756, zi_k (.int 0) 757)) (zs_iconst (M := 197) (pc := 756) (zd_eq zk197 (by decide +kernel : decode cL_law 756 = .ok (.iconst 0, 1))) (by decide)) <|
  zcons (a := (757, zi_rz)) (zs_rz (M := 197) (pc := 757) (zd_eq zk197 (by decide +kernel : decode cL_law 757 = .ok (.ireturn, 1))) rfl) <|
  zcons (a := (758, zi_al 1 759)) (zs_al_n (M := 197) (pc := 758) (zd_eq zk197 (by decide +kernel : decode cL_law 758 = .ok (.aload_n 1, 1)))) <|
  zcons (a := (759, zi_cv 81 0 6 762 1)) (zs_cv (M := 197) (pc := 759) (M' := 81) (k := 0) (kd := 1) (ci := 6) (q := (RX6, TX6, 14)) (zd_eq zk197 (by decide +kernel : decode cL_law 759 = .ok (.invokevirtual 94, 3))) zWd81 (zl_m zo197 zy81 zw_611) (zl_i zy81 zw_612) (zl_e zy81 zw_613) (by decide) rfl (by rw [zo81])) <|
  zcons (a := (762, zi_al 2 763)) (zs_al_n (M := 197) (pc := 762) (zd_eq zk197 (by decide +kernel : decode cL_law 762 = .ok (.aload_n 2, 1)))) <|
  zcons (a := (763, zi_cv 169 0 7 766 1)) (zs_cv (M := 197) (pc := 763) (M' := 169) (k := 0) (kd := 1) (ci := 7) (q := (RX7, TX7, 26)) (zd_eq zk197 (by decide +kernel : decode cL_law 763 = .ok (.invokevirtual 97, 3))) zWd169 (zl_m zo197 zy169 zw_1071) (zl_i zy169 zw_1072) (zl_e zy169 zw_1073) (by decide) rfl (by rw [zo169])) <|
  zcons (a := (766, zi_b2 (fun x y => x = y) 1512 769)) (zs_icmpeq (M := 197) (pc := 766) (zd_eq zk197 (by decide +kernel : decode cL_law 766 = .ok (.if_icmp .eq 746, 3))) (by decide)) <|
  zcons (a := (769, zi_k (.int 0) 770)) (zs_iconst (M := 197) (pc := 769) (zd_eq zk197 (by decide +kernel : decode cL_law 769 = .ok (.iconst 0, 1))) (by decide)) <|
  zcons (a := (770, zi_rz)) (zs_rz (M := 197) (pc := 770) (zd_eq zk197 (by decide +kernel : decode cL_law 770 = .ok (.ireturn, 1))) rfl) <|
  zcons (a := (771, zi_al 1 772)) (zs_al_n (M := 197) (pc := 771) (zd_eq zk197 (by decide +kernel : decode cL_law 771 = .ok (.aload_n 1, 1)))) <|
  zcons (a := (772, zi_al 0 773)) (zs_al_n (M := 197) (pc := 772) (zd_eq zk197 (by decide +kernel : decode cL_law 772 = .ok (.aload_n 0, 1)))) <|
  zcons (a := (773, zi_il 3 774)) (zs_il_n (M := 197) (pc := 773) (zd_eq zk197 (by decide +kernel : decode cL_law 773 = .ok (.iload_n 3, 1)))) <| znil
set_option maxRecDepth 100000 in
theorem zS197_19 : ∀ q ∈ zm_c197_19, zm_Snd 197 q.1 q.2 :=
  zcons (a := (774, zi_k (.int 1) 775)) (zs_iconst (M := 197) (pc := 774) (zd_eq zk197 (by decide +kernel : decode cL_law 774 = .ok (.iconst 1, 1))) (by decide)) <|
  zcons (a := (775, zi_bin (· + ·) 776)) (zs_iadd (M := 197) (pc := 775) (zd_eq zk197 (by decide +kernel : decode cL_law 775 = .ok (.iadd, 1)))) <|
  zcons (a := (776, zi_sld 777)) (zs_sld (M := 197) (pc := 776) (zd_eq zk197 (by decide +kernel : decode cL_law 776 = .ok (.iaload, 1)))) <|
  zcons (a := (777, zi_al 0 778)) (zs_al_n (M := 197) (pc := 777) (zd_eq zk197 (by decide +kernel : decode cL_law 777 = .ok (.aload_n 0, 1)))) <|
  zcons (a := (778, zi_il 3 779)) (zs_il_n (M := 197) (pc := 778) (zd_eq zk197 (by decide +kernel : decode cL_law 778 = .ok (.iload_n 3, 1)))) <|
  zcons (a := (779, zi_k (.int 2) 780)) (zs_iconst (M := 197) (pc := 779) (zd_eq zk197 (by decide +kernel : decode cL_law 779 = .ok (.iconst 2, 1))) (by decide)) <|
  zcons (a := (780, zi_bin (· + ·) 781)) (zs_iadd (M := 197) (pc := 780) (zd_eq zk197 (by decide +kernel : decode cL_law 780 = .ok (.iadd, 1)))) <|
  zcons (a := (781, zi_sld 782)) (zs_sld (M := 197) (pc := 781) (zd_eq zk197 (by decide +kernel : decode cL_law 781 = .ok (.iaload, 1)))) <|
  zcons (a := (782, zi_cv 82 2 6 785 1)) (zs_cv (M := 197) (pc := 782) (M' := 82) (k := 2) (kd := 1) (ci := 6) (q := (RX6, TX6, 14)) (zd_eq zk197 (by decide +kernel : decode cL_law 782 = .ok (.invokevirtual 98, 3))) zWd82 (zl_m zo197 zy82 zw_616) (zl_i zy82 zw_617) (zl_e zy82 zw_618) (by decide) rfl (by rw [zo82])) <|
  zcons (a := (785, zi_al 2 786)) (zs_al_n (M := 197) (pc := 785) (zd_eq zk197 (by decide +kernel : decode cL_law 785 = .ok (.aload_n 2, 1)))) <|
  zcons (a := (786, zi_al 0 787)) (zs_al_n (M := 197) (pc := 786) (zd_eq zk197 (by decide +kernel : decode cL_law 786 = .ok (.aload_n 0, 1)))) <|
  zcons (a := (787, zi_il 3 788)) (zs_il_n (M := 197) (pc := 787) (zd_eq zk197 (by decide +kernel : decode cL_law 787 = .ok (.iload_n 3, 1)))) <|
  zcons (a := (788, zi_k (.int 1) 789)) (zs_iconst (M := 197) (pc := 788) (zd_eq zk197 (by decide +kernel : decode cL_law 788 = .ok (.iconst 1, 1))) (by decide)) <|
  zcons (a := (789, zi_bin (· + ·) 790)) (zs_iadd (M := 197) (pc := 789) (zd_eq zk197 (by decide +kernel : decode cL_law 789 = .ok (.iadd, 1)))) <|
  zcons (a := (790, zi_sld 791)) (zs_sld (M := 197) (pc := 790) (zd_eq zk197 (by decide +kernel : decode cL_law 790 = .ok (.iaload, 1)))) <|
  zcons (a := (791, zi_al 0 792)) (zs_al_n (M := 197) (pc := 791) (zd_eq zk197 (by decide +kernel : decode cL_law 791 = .ok (.aload_n 0, 1)))) <|
  zcons (a := (792, zi_il 3 793)) (zs_il_n (M := 197) (pc := 792) (zd_eq zk197 (by decide +kernel : decode cL_law 792 = .ok (.iload_n 3, 1)))) <|
  zcons (a := (793, zi_k (.int 2) 794)) (zs_iconst (M := 197) (pc := 793) (zd_eq zk197 (by decide +kernel : decode cL_law 793 = .ok (.iconst 2, 1))) (by decide)) <|
  zcons (a := (794, zi_bin (· + ·) 795)) (zs_iadd (M := 197) (pc := 794) (zd_eq zk197 (by decide +kernel : decode cL_law 794 = .ok (.iadd, 1)))) <|
  zcons (a := (795, zi_sld 796)) (zs_sld (M := 197) (pc := 795) (zd_eq zk197 (by decide +kernel : decode cL_law 795 = .ok (.iaload, 1)))) <|
  zcons (a := (796, zi_cv 170 2 7 799 1)) (zs_cv (M := 197) (pc := 796) (M' := 170) (k := 2) (kd := 1) (ci := 7) (q := (RX7, TX7, 26)) (zd_eq zk197 (by decide +kernel : decode cL_law 796 = .ok (.invokevirtual 101, 3))) zWd170 (zl_m zo197 zy170 zw_1075) (zl_i zy170 zw_1076) (zl_e zy170 zw_1077) (by decide) rfl (by rw [zo170])) <|
  zcons (a := (799, zi_b2 (fun x y => x = y) 1512 802)) (zs_icmpeq (M := 197) (pc := 799) (zd_eq zk197 (by decide +kernel : decode cL_law 799 = .ok (.if_icmp .eq 713, 3))) (by decide)) <|
  zcons (a := (802, zi_k (.int 0) 803)) (zs_iconst (M := 197) (pc := 802) (zd_eq zk197 (by decide +kernel : decode cL_law 802 = .ok (.iconst 0, 1))) (by decide)) <|
  zcons (a := (803, zi_rz)) (zs_rz (M := 197) (pc := 803) (zd_eq zk197 (by decide +kernel : decode cL_law 803 = .ok (.ireturn, 1))) rfl) <| znil
set_option maxRecDepth 100000 in
theorem zS197_20 : ∀ q ∈ zm_c197_20, zm_Snd 197 q.1 q.2 :=
  zcons (a := (804, zi_al 1 805)) (zs_al_n (M := 197) (pc := 804) (zd_eq zk197 (by decide +kernel : decode cL_law 804 = .ok (.aload_n 1, 1)))) <|
  zcons (a := (805, zi_al 0 806)) (zs_al_n (M := 197) (pc := 805) (zd_eq zk197 (by decide +kernel : decode cL_law 805 = .ok (.aload_n 0, 1)))) <|
  zcons (a := (806, zi_il 3 807)) (zs_il_n (M := 197) (pc := 806) (zd_eq zk197 (by decide +kernel : decode cL_law 806 = .ok (.iload_n 3, 1)))) <|
  zcons (a := (807, zi_k (.int 1) 808)) (zs_iconst (M := 197) (pc := 807) (zd_eq zk197 (by decide +kernel : decode cL_law 807 = .ok (.iconst 1, 1))) (by decide)) <|
  zcons (a := (808, zi_bin (· + ·) 809)) (zs_iadd (M := 197) (pc := 808) (zd_eq zk197 (by decide +kernel : decode cL_law 808 = .ok (.iadd, 1)))) <|
  zcons (a := (809, zi_sld 810)) (zs_sld (M := 197) (pc := 809) (zd_eq zk197 (by decide +kernel : decode cL_law 809 = .ok (.iaload, 1)))) <|
  zcons (a := (810, zi_cv 83 1 6 813 1)) (zs_cv (M := 197) (pc := 810) (M' := 83) (k := 1) (kd := 1) (ci := 6) (q := (RX6, TX6, 14)) (zd_eq zk197 (by decide +kernel : decode cL_law 810 = .ok (.invokevirtual 102, 3))) zWd83 (zl_m zo197 zy83 zw_620) (zl_i zy83 zw_621) (zl_e zy83 zw_622) (by decide) rfl (by rw [zo83])) <|
  zcons (a := (813, zi_al 2 814)) (zs_al_n (M := 197) (pc := 813) (zd_eq zk197 (by decide +kernel : decode cL_law 813 = .ok (.aload_n 2, 1)))) <|
  zcons (a := (814, zi_al 0 815)) (zs_al_n (M := 197) (pc := 814) (zd_eq zk197 (by decide +kernel : decode cL_law 814 = .ok (.aload_n 0, 1)))) <|
  zcons (a := (815, zi_il 3 816)) (zs_il_n (M := 197) (pc := 815) (zd_eq zk197 (by decide +kernel : decode cL_law 815 = .ok (.iload_n 3, 1)))) <|
  zcons (a := (816, zi_k (.int 1) 817)) (zs_iconst (M := 197) (pc := 816) (zd_eq zk197 (by decide +kernel : decode cL_law 816 = .ok (.iconst 1, 1))) (by decide)) <|
  zcons (a := (817, zi_bin (· + ·) 818)) (zs_iadd (M := 197) (pc := 817) (zd_eq zk197 (by decide +kernel : decode cL_law 817 = .ok (.iadd, 1)))) <|
  zcons (a := (818, zi_sld 819)) (zs_sld (M := 197) (pc := 818) (zd_eq zk197 (by decide +kernel : decode cL_law 818 = .ok (.iaload, 1)))) <|
  zcons (a := (819, zi_cv 171 1 7 822 1)) (zs_cv (M := 197) (pc := 819) (M' := 171) (k := 1) (kd := 1) (ci := 7) (q := (RX7, TX7, 26)) (zd_eq zk197 (by decide +kernel : decode cL_law 819 = .ok (.invokevirtual 105, 3))) zWd171 (zl_m zo197 zy171 zw_1079) (zl_i zy171 zw_1080) (zl_e zy171 zw_1081) (by decide) rfl (by rw [zo171])) <|
  zcons (a := (822, zi_b2 (fun x y => x = y) 1512 825)) (zs_icmpeq (M := 197) (pc := 822) (zd_eq zk197 (by decide +kernel : decode cL_law 822 = .ok (.if_icmp .eq 690, 3))) (by decide)) <|
  zcons (a := (825, zi_k (.int 0) 826)) (zs_iconst (M := 197) (pc := 825) (zd_eq zk197 (by decide +kernel : decode cL_law 825 = .ok (.iconst 0, 1))) (by decide)) <|
  zcons (a := (826, zi_rz)) (zs_rz (M := 197) (pc := 826) (zd_eq zk197 (by decide +kernel : decode cL_law 826 = .ok (.ireturn, 1))) rfl) <|
  zcons (a := (827, zi_al 1 828)) (zs_al_n (M := 197) (pc := 827) (zd_eq zk197 (by decide +kernel : decode cL_law 827 = .ok (.aload_n 1, 1)))) <|
  zcons (a := (828, zi_al 0 829)) (zs_al_n (M := 197) (pc := 828) (zd_eq zk197 (by decide +kernel : decode cL_law 828 = .ok (.aload_n 0, 1)))) <|
  zcons (a := (829, zi_il 3 830)) (zs_il_n (M := 197) (pc := 829) (zd_eq zk197 (by decide +kernel : decode cL_law 829 = .ok (.iload_n 3, 1)))) <|
  zcons (a := (830, zi_k (.int 1) 831)) (zs_iconst (M := 197) (pc := 830) (zd_eq zk197 (by decide +kernel : decode cL_law 830 = .ok (.iconst 1, 1))) (by decide)) <|
  zcons (a := (831, zi_bin (· + ·) 832)) (zs_iadd (M := 197) (pc := 831) (zd_eq zk197 (by decide +kernel : decode cL_law 831 = .ok (.iadd, 1)))) <|
  zcons (a := (832, zi_sld 833)) (zs_sld (M := 197) (pc := 832) (zd_eq zk197 (by decide +kernel : decode cL_law 832 = .ok (.iaload, 1)))) <|
  zcons (a := (833, zi_al 0 834)) (zs_al_n (M := 197) (pc := 833) (zd_eq zk197 (by decide +kernel : decode cL_law 833 = .ok (.aload_n 0, 1)))) <| znil
set_option maxRecDepth 100000 in
theorem zS197_21 : ∀ q ∈ zm_c197_21, zm_Snd 197 q.1 q.2 :=
  zcons (a := (834, zi_il 3 835)) (zs_il_n (M := 197) (pc := 834) (zd_eq zk197 (by decide +kernel : decode cL_law 834 = .ok (.iload_n 3, 1)))) <|
  zcons (a := (835, zi_k (.int 2) 836)) (zs_iconst (M := 197) (pc := 835) (zd_eq zk197 (by decide +kernel : decode cL_law 835 = .ok (.iconst 2, 1))) (by decide)) <|
  zcons (a := (836, zi_bin (· + ·) 837)) (zs_iadd (M := 197) (pc := 836) (zd_eq zk197 (by decide +kernel : decode cL_law 836 = .ok (.iadd, 1)))) <|
  zcons (a := (837, zi_sld 838)) (zs_sld (M := 197) (pc := 837) (zd_eq zk197 (by decide +kernel : decode cL_law 837 = .ok (.iaload, 1)))) <|
  zcons (a := (838, zi_cv 84 2 6 841 1)) (zs_cv (M := 197) (pc := 838) (M' := 84) (k := 2) (kd := 1) (ci := 6) (q := (RX6, TX6, 14)) (zd_eq zk197 (by decide +kernel : decode cL_law 838 = .ok (.invokevirtual 106, 3))) zWd84 (zl_m zo197 zy84 zw_627) (zl_i zy84 zw_628) (zl_e zy84 zw_629) (by decide) rfl (by rw [zo84])) <|
  zcons (a := (841, zi_al 2 842)) (zs_al_n (M := 197) (pc := 841) (zd_eq zk197 (by decide +kernel : decode cL_law 841 = .ok (.aload_n 2, 1)))) <|
  zcons (a := (842, zi_al 0 843)) (zs_al_n (M := 197) (pc := 842) (zd_eq zk197 (by decide +kernel : decode cL_law 842 = .ok (.aload_n 0, 1)))) <|
  zcons (a := (843, zi_il 3 844)) (zs_il_n (M := 197) (pc := 843) (zd_eq zk197 (by decide +kernel : decode cL_law 843 = .ok (.iload_n 3, 1)))) <|
  zcons (a := (844, zi_k (.int 1) 845)) (zs_iconst (M := 197) (pc := 844) (zd_eq zk197 (by decide +kernel : decode cL_law 844 = .ok (.iconst 1, 1))) (by decide)) <|
  zcons (a := (845, zi_bin (· + ·) 846)) (zs_iadd (M := 197) (pc := 845) (zd_eq zk197 (by decide +kernel : decode cL_law 845 = .ok (.iadd, 1)))) <|
  zcons (a := (846, zi_sld 847)) (zs_sld (M := 197) (pc := 846) (zd_eq zk197 (by decide +kernel : decode cL_law 846 = .ok (.iaload, 1)))) <|
  zcons (a := (847, zi_al 0 848)) (zs_al_n (M := 197) (pc := 847) (zd_eq zk197 (by decide +kernel : decode cL_law 847 = .ok (.aload_n 0, 1)))) <|
  zcons (a := (848, zi_il 3 849)) (zs_il_n (M := 197) (pc := 848) (zd_eq zk197 (by decide +kernel : decode cL_law 848 = .ok (.iload_n 3, 1)))) <|
  zcons (a := (849, zi_k (.int 2) 850)) (zs_iconst (M := 197) (pc := 849) (zd_eq zk197 (by decide +kernel : decode cL_law 849 = .ok (.iconst 2, 1))) (by decide)) <|
  zcons (a := (850, zi_bin (· + ·) 851)) (zs_iadd (M := 197) (pc := 850) (zd_eq zk197 (by decide +kernel : decode cL_law 850 = .ok (.iadd, 1)))) <|
  zcons (a := (851, zi_sld 852)) (zs_sld (M := 197) (pc := 851) (zd_eq zk197 (by decide +kernel : decode cL_law 851 = .ok (.iaload, 1)))) <|
  zcons (a := (852, zi_cv 172 2 7 855 1)) (zs_cv (M := 197) (pc := 852) (M' := 172) (k := 2) (kd := 1) (ci := 7) (q := (RX7, TX7, 26)) (zd_eq zk197 (by decide +kernel : decode cL_law 852 = .ok (.invokevirtual 109, 3))) zWd172 (zl_m zo197 zy172 zw_1083) (zl_i zy172 zw_1084) (zl_e zy172 zw_1085) (by decide) rfl (by rw [zo172])) <|
  zcons (a := (855, zi_b2 (fun x y => x = y) 1512 858)) (zs_icmpeq (M := 197) (pc := 855) (zd_eq zk197 (by decide +kernel : decode cL_law 855 = .ok (.if_icmp .eq 657, 3))) (by decide)) <|
  zcons (a := (858, zi_k (.int 0) 859)) (zs_iconst (M := 197) (pc := 858) (zd_eq zk197 (by decide +kernel : decode cL_law 858 = .ok (.iconst 0, 1))) (by decide)) <|
  zcons (a := (859, zi_rz)) (zs_rz (M := 197) (pc := 859) (zd_eq zk197 (by decide +kernel : decode cL_law 859 = .ok (.ireturn, 1))) rfl) <|
  zcons (a := (860, zi_al 1 861)) (zs_al_n (M := 197) (pc := 860) (zd_eq zk197 (by decide +kernel : decode cL_law 860 = .ok (.aload_n 1, 1)))) <|
  zcons (a := (861, zi_al 0 862)) (zs_al_n (M := 197) (pc := 861) (zd_eq zk197 (by decide +kernel : decode cL_law 861 = .ok (.aload_n 0, 1)))) <|
  zcons (a := (862, zi_il 3 863)) (zs_il_n (M := 197) (pc := 862) (zd_eq zk197 (by decide +kernel : decode cL_law 862 = .ok (.iload_n 3, 1)))) <|
  zcons (a := (863, zi_k (.int 1) 864)) (zs_iconst (M := 197) (pc := 863) (zd_eq zk197 (by decide +kernel : decode cL_law 863 = .ok (.iconst 1, 1))) (by decide)) <| znil
set_option maxRecDepth 100000 in
theorem zS197_22 : ∀ q ∈ zm_c197_22, zm_Snd 197 q.1 q.2 :=
  zcons (a := (864, zi_bin (· + ·) 865)) (zs_iadd (M := 197) (pc := 864) (zd_eq zk197 (by decide +kernel : decode cL_law 864 = .ok (.iadd, 1)))) <|
  zcons (a := (865, zi_sld 866)) (zs_sld (M := 197) (pc := 865) (zd_eq zk197 (by decide +kernel : decode cL_law 865 = .ok (.iaload, 1)))) <|
  zcons (a := (866, zi_al 0 867)) (zs_al_n (M := 197) (pc := 866) (zd_eq zk197 (by decide +kernel : decode cL_law 866 = .ok (.aload_n 0, 1)))) <|
  zcons (a := (867, zi_il 3 868)) (zs_il_n (M := 197) (pc := 867) (zd_eq zk197 (by decide +kernel : decode cL_law 867 = .ok (.iload_n 3, 1)))) <|
  zcons (a := (868, zi_k (.int 2) 869)) (zs_iconst (M := 197) (pc := 868) (zd_eq zk197 (by decide +kernel : decode cL_law 868 = .ok (.iconst 2, 1))) (by decide)) <|
  zcons (a := (869, zi_bin (· + ·) 870)) (zs_iadd (M := 197) (pc := 869) (zd_eq zk197 (by decide +kernel : decode cL_law 869 = .ok (.iadd, 1)))) <|
  zcons (a := (870, zi_sld 871)) (zs_sld (M := 197) (pc := 870) (zd_eq zk197 (by decide +kernel : decode cL_law 870 = .ok (.iaload, 1)))) <|
  zcons (a := (871, zi_cv 85 2 6 874 1)) (zs_cv (M := 197) (pc := 871) (M' := 85) (k := 2) (kd := 1) (ci := 6) (q := (RX6, TX6, 14)) (zd_eq zk197 (by decide +kernel : decode cL_law 871 = .ok (.invokevirtual 110, 3))) zWd85 (zl_m zo197 zy85 zw_639) (zl_i zy85 zw_640) (zl_e zy85 zw_641) (by decide) rfl (by rw [zo85])) <|
  zcons (a := (874, zi_al 2 875)) (zs_al_n (M := 197) (pc := 874) (zd_eq zk197 (by decide +kernel : decode cL_law 874 = .ok (.aload_n 2, 1)))) <|
  zcons (a := (875, zi_al 0 876)) (zs_al_n (M := 197) (pc := 875) (zd_eq zk197 (by decide +kernel : decode cL_law 875 = .ok (.aload_n 0, 1)))) <|
  zcons (a := (876, zi_il 3 877)) (zs_il_n (M := 197) (pc := 876) (zd_eq zk197 (by decide +kernel : decode cL_law 876 = .ok (.iload_n 3, 1)))) <|
  zcons (a := (877, zi_k (.int 1) 878)) (zs_iconst (M := 197) (pc := 877) (zd_eq zk197 (by decide +kernel : decode cL_law 877 = .ok (.iconst 1, 1))) (by decide)) <|
  zcons (a := (878, zi_bin (· + ·) 879)) (zs_iadd (M := 197) (pc := 878) (zd_eq zk197 (by decide +kernel : decode cL_law 878 = .ok (.iadd, 1)))) <|
  zcons (a := (879, zi_sld 880)) (zs_sld (M := 197) (pc := 879) (zd_eq zk197 (by decide +kernel : decode cL_law 879 = .ok (.iaload, 1)))) <|
  zcons (a := (880, zi_al 0 881)) (zs_al_n (M := 197) (pc := 880) (zd_eq zk197 (by decide +kernel : decode cL_law 880 = .ok (.aload_n 0, 1)))) <|
  zcons (a := (881, zi_il 3 882)) (zs_il_n (M := 197) (pc := 881) (zd_eq zk197 (by decide +kernel : decode cL_law 881 = .ok (.iload_n 3, 1)))) <|
  zcons (a := (882, zi_k (.int 2) 883)) (zs_iconst (M := 197) (pc := 882) (zd_eq zk197 (by decide +kernel : decode cL_law 882 = .ok (.iconst 2, 1))) (by decide)) <|
  zcons (a := (883, zi_bin (· + ·) 884)) (zs_iadd (M := 197) (pc := 883) (zd_eq zk197 (by decide +kernel : decode cL_law 883 = .ok (.iadd, 1)))) <|
  zcons (a := (884, zi_sld 885)) (zs_sld (M := 197) (pc := 884) (zd_eq zk197 (by decide +kernel : decode cL_law 884 = .ok (.iaload, 1)))) <|
  zcons (a := (885, zi_cv 173 2 7 888 1)) (zs_cv (M := 197) (pc := 885) (M' := 173) (k := 2) (kd := 1) (ci := 7) (q := (RX7, TX7, 26)) (zd_eq zk197 (by decide +kernel : decode cL_law 885 = .ok (.invokevirtual 113, 3))) zWd173 (zl_m zo197 zy173 zw_1087) (zl_i zy173 zw_1088) (zl_e zy173 zw_1089) (by decide) rfl (by rw [zo173])) <|
  zcons (a := (888, zi_b2 (fun x y => x = y) 1512 891)) (zs_icmpeq (M := 197) (pc := 888) (zd_eq zk197 (by decide +kernel : decode cL_law 888 = .ok (.if_icmp .eq 624, 3))) (by decide)) <|
  zcons (a := (891, zi_k (.int 0) 892)) (zs_iconst (M := 197) (pc := 891) (zd_eq zk197 (by decide +kernel : decode cL_law 891 = .ok (.iconst 0, 1))) (by decide)) <|
  zcons (a := (892, zi_rz)) (zs_rz (M := 197) (pc := 892) (zd_eq zk197 (by decide +kernel : decode cL_law 892 = .ok (.ireturn, 1))) rfl) <|
  zcons (a := (893, zi_al 1 894)) (zs_al_n (M := 197) (pc := 893) (zd_eq zk197 (by decide +kernel : decode cL_law 893 = .ok (.aload_n 1, 1)))) <| znil
set_option maxRecDepth 100000 in
theorem zS197_23 : ∀ q ∈ zm_c197_23, zm_Snd 197 q.1 q.2 :=
  zcons (a := (894, zi_al 0 895)) (zs_al_n (M := 197) (pc := 894) (zd_eq zk197 (by decide +kernel : decode cL_law 894 = .ok (.aload_n 0, 1)))) <|
  zcons (a := (895, zi_il 3 896)) (zs_il_n (M := 197) (pc := 895) (zd_eq zk197 (by decide +kernel : decode cL_law 895 = .ok (.iload_n 3, 1)))) <|
  zcons (a := (896, zi_k (.int 1) 897)) (zs_iconst (M := 197) (pc := 896) (zd_eq zk197 (by decide +kernel : decode cL_law 896 = .ok (.iconst 1, 1))) (by decide)) <|
  zcons (a := (897, zi_bin (· + ·) 898)) (zs_iadd (M := 197) (pc := 897) (zd_eq zk197 (by decide +kernel : decode cL_law 897 = .ok (.iadd, 1)))) <|
  zcons (a := (898, zi_sld 899)) (zs_sld (M := 197) (pc := 898) (zd_eq zk197 (by decide +kernel : decode cL_law 898 = .ok (.iaload, 1)))) <|
  zcons (a := (899, zi_al 0 900)) (zs_al_n (M := 197) (pc := 899) (zd_eq zk197 (by decide +kernel : decode cL_law 899 = .ok (.aload_n 0, 1)))) <|
  zcons (a := (900, zi_il 3 901)) (zs_il_n (M := 197) (pc := 900) (zd_eq zk197 (by decide +kernel : decode cL_law 900 = .ok (.iload_n 3, 1)))) <|
  zcons (a := (901, zi_k (.int 2) 902)) (zs_iconst (M := 197) (pc := 901) (zd_eq zk197 (by decide +kernel : decode cL_law 901 = .ok (.iconst 2, 1))) (by decide)) <|
  zcons (a := (902, zi_bin (· + ·) 903)) (zs_iadd (M := 197) (pc := 902) (zd_eq zk197 (by decide +kernel : decode cL_law 902 = .ok (.iadd, 1)))) <|
  zcons (a := (903, zi_sld 904)) (zs_sld (M := 197) (pc := 903) (zd_eq zk197 (by decide +kernel : decode cL_law 903 = .ok (.iaload, 1)))) <|
  zcons (a := (904, zi_cv 86 2 6 907 1)) (zs_cv (M := 197) (pc := 904) (M' := 86) (k := 2) (kd := 1) (ci := 6) (q := (RX6, TX6, 14)) (zd_eq zk197 (by decide +kernel : decode cL_law 904 = .ok (.invokevirtual 114, 3))) zWd86 (zl_m zo197 zy86 zw_643) (zl_i zy86 zw_644) (zl_e zy86 zw_645) (by decide) rfl (by rw [zo86])) <|
  zcons (a := (907, zi_al 2 908)) (zs_al_n (M := 197) (pc := 907) (zd_eq zk197 (by decide +kernel : decode cL_law 907 = .ok (.aload_n 2, 1)))) <|
  zcons (a := (908, zi_al 0 909)) (zs_al_n (M := 197) (pc := 908) (zd_eq zk197 (by decide +kernel : decode cL_law 908 = .ok (.aload_n 0, 1)))) <|
  zcons (a := (909, zi_il 3 910)) (zs_il_n (M := 197) (pc := 909) (zd_eq zk197 (by decide +kernel : decode cL_law 909 = .ok (.iload_n 3, 1)))) <|
  zcons (a := (910, zi_k (.int 1) 911)) (zs_iconst (M := 197) (pc := 910) (zd_eq zk197 (by decide +kernel : decode cL_law 910 = .ok (.iconst 1, 1))) (by decide)) <|
  zcons (a := (911, zi_bin (· + ·) 912)) (zs_iadd (M := 197) (pc := 911) (zd_eq zk197 (by decide +kernel : decode cL_law 911 = .ok (.iadd, 1)))) <|
  zcons (a := (912, zi_sld 913)) (zs_sld (M := 197) (pc := 912) (zd_eq zk197 (by decide +kernel : decode cL_law 912 = .ok (.iaload, 1)))) <|
  zcons (a := (913, zi_al 0 914)) (zs_al_n (M := 197) (pc := 913) (zd_eq zk197 (by decide +kernel : decode cL_law 913 = .ok (.aload_n 0, 1)))) <|
  zcons (a := (914, zi_il 3 915)) (zs_il_n (M := 197) (pc := 914) (zd_eq zk197 (by decide +kernel : decode cL_law 914 = .ok (.iload_n 3, 1)))) <|
  zcons (a := (915, zi_k (.int 2) 916)) (zs_iconst (M := 197) (pc := 915) (zd_eq zk197 (by decide +kernel : decode cL_law 915 = .ok (.iconst 2, 1))) (by decide)) <|
  zcons (a := (916, zi_bin (· + ·) 917)) (zs_iadd (M := 197) (pc := 916) (zd_eq zk197 (by decide +kernel : decode cL_law 916 = .ok (.iadd, 1)))) <|
  zcons (a := (917, zi_sld 918)) (zs_sld (M := 197) (pc := 917) (zd_eq zk197 (by decide +kernel : decode cL_law 917 = .ok (.iaload, 1)))) <|
  zcons (a := (918, zi_cv 175 2 7 921 1)) (zs_cv (M := 197) (pc := 918) (M' := 175) (k := 2) (kd := 1) (ci := 7) (q := (RX7, TX7, 26)) (zd_eq zk197 (by decide +kernel : decode cL_law 918 = .ok (.invokevirtual 117, 3))) zWd175 (zl_m zo197 zy175 zw_1091) (zl_i zy175 zw_1092) (zl_e zy175 zw_1093) (by decide) rfl (by rw [zo175])) <|
  zcons (a := (921, zi_b2 (fun x y => x = y) 1512 924)) (zs_icmpeq (M := 197) (pc := 921) (zd_eq zk197 (by decide +kernel : decode cL_law 921 = .ok (.if_icmp .eq 591, 3))) (by decide)) <| znil
set_option maxRecDepth 100000 in
theorem zS197_24 : ∀ q ∈ zm_c197_24, zm_Snd 197 q.1 q.2 :=
  zcons (a := (924, zi_k (.int 0) 925)) (zs_iconst (M := 197) (pc := 924) (zd_eq zk197 (by decide +kernel : decode cL_law 924 = .ok (.iconst 0, 1))) (by decide)) <|
  zcons (a := (925, zi_rz)) (zs_rz (M := 197) (pc := 925) (zd_eq zk197 (by decide +kernel : decode cL_law 925 = .ok (.ireturn, 1))) rfl) <|
  zcons (a := (926, zi_al 1 927)) (zs_al_n (M := 197) (pc := 926) (zd_eq zk197 (by decide +kernel : decode cL_law 926 = .ok (.aload_n 1, 1)))) <|
  zcons (a := (927, zi_al 0 928)) (zs_al_n (M := 197) (pc := 927) (zd_eq zk197 (by decide +kernel : decode cL_law 927 = .ok (.aload_n 0, 1)))) <|
  zcons (a := (928, zi_il 3 929)) (zs_il_n (M := 197) (pc := 928) (zd_eq zk197 (by decide +kernel : decode cL_law 928 = .ok (.iload_n 3, 1)))) <|
  zcons (a := (929, zi_k (.int 1) 930)) (zs_iconst (M := 197) (pc := 929) (zd_eq zk197 (by decide +kernel : decode cL_law 929 = .ok (.iconst 1, 1))) (by decide)) <|
  zcons (a := (930, zi_bin (· + ·) 931)) (zs_iadd (M := 197) (pc := 930) (zd_eq zk197 (by decide +kernel : decode cL_law 930 = .ok (.iadd, 1)))) <|
  zcons (a := (931, zi_sld 932)) (zs_sld (M := 197) (pc := 931) (zd_eq zk197 (by decide +kernel : decode cL_law 931 = .ok (.iaload, 1)))) <|
  zcons (a := (932, zi_al 0 933)) (zs_al_n (M := 197) (pc := 932) (zd_eq zk197 (by decide +kernel : decode cL_law 932 = .ok (.aload_n 0, 1)))) <|
  zcons (a := (933, zi_il 3 934)) (zs_il_n (M := 197) (pc := 933) (zd_eq zk197 (by decide +kernel : decode cL_law 933 = .ok (.iload_n 3, 1)))) <|
  zcons (a := (934, zi_k (.int 2) 935)) (zs_iconst (M := 197) (pc := 934) (zd_eq zk197 (by decide +kernel : decode cL_law 934 = .ok (.iconst 2, 1))) (by decide)) <|
  zcons (a := (935, zi_bin (· + ·) 936)) (zs_iadd (M := 197) (pc := 935) (zd_eq zk197 (by decide +kernel : decode cL_law 935 = .ok (.iadd, 1)))) <|
  zcons (a := (936, zi_sld 937)) (zs_sld (M := 197) (pc := 936) (zd_eq zk197 (by decide +kernel : decode cL_law 936 = .ok (.iaload, 1)))) <|
  zcons (a := (937, zi_cv 87 2 6 940 1)) (zs_cv (M := 197) (pc := 937) (M' := 87) (k := 2) (kd := 1) (ci := 6) (q := (RX6, TX6, 14)) (zd_eq zk197 (by decide +kernel : decode cL_law 937 = .ok (.invokevirtual 118, 3))) zWd87 (zl_m zo197 zy87 zw_651) (zl_i zy87 zw_652) (zl_e zy87 zw_653) (by decide) rfl (by rw [zo87])) <|
  zcons (a := (940, zi_al 2 941)) (zs_al_n (M := 197) (pc := 940) (zd_eq zk197 (by decide +kernel : decode cL_law 940 = .ok (.aload_n 2, 1)))) <|
  zcons (a := (941, zi_al 0 942)) (zs_al_n (M := 197) (pc := 941) (zd_eq zk197 (by decide +kernel : decode cL_law 941 = .ok (.aload_n 0, 1)))) <|
  zcons (a := (942, zi_il 3 943)) (zs_il_n (M := 197) (pc := 942) (zd_eq zk197 (by decide +kernel : decode cL_law 942 = .ok (.iload_n 3, 1)))) <|
  zcons (a := (943, zi_k (.int 1) 944)) (zs_iconst (M := 197) (pc := 943) (zd_eq zk197 (by decide +kernel : decode cL_law 943 = .ok (.iconst 1, 1))) (by decide)) <|
  zcons (a := (944, zi_bin (· + ·) 945)) (zs_iadd (M := 197) (pc := 944) (zd_eq zk197 (by decide +kernel : decode cL_law 944 = .ok (.iadd, 1)))) <|
  zcons (a := (945, zi_sld 946)) (zs_sld (M := 197) (pc := 945) (zd_eq zk197 (by decide +kernel : decode cL_law 945 = .ok (.iaload, 1)))) <|
  zcons (a := (946, zi_al 0 947)) (zs_al_n (M := 197) (pc := 946) (zd_eq zk197 (by decide +kernel : decode cL_law 946 = .ok (.aload_n 0, 1)))) <|
  zcons (a := (947, zi_il 3 948)) (zs_il_n (M := 197) (pc := 947) (zd_eq zk197 (by decide +kernel : decode cL_law 947 = .ok (.iload_n 3, 1)))) <|
  zcons (a := (948, zi_k (.int 2) 949)) (zs_iconst (M := 197) (pc := 948) (zd_eq zk197 (by decide +kernel : decode cL_law 948 = .ok (.iconst 2, 1))) (by decide)) <|
  zcons (a := (949, zi_bin (· + ·) 950)) (zs_iadd (M := 197) (pc := 949) (zd_eq zk197 (by decide +kernel : decode cL_law 949 = .ok (.iadd, 1)))) <| znil
set_option maxRecDepth 100000 in
theorem zS197_25 : ∀ q ∈ zm_c197_25, zm_Snd 197 q.1 q.2 :=
  zcons (a := (950, zi_sld 951)) (zs_sld (M := 197) (pc := 950) (zd_eq zk197 (by decide +kernel : decode cL_law 950 = .ok (.iaload, 1)))) <|
  zcons (a := (951, zi_cv 176 2 7 954 1)) (zs_cv (M := 197) (pc := 951) (M' := 176) (k := 2) (kd := 1) (ci := 7) (q := (RX7, TX7, 26)) (zd_eq zk197 (by decide +kernel : decode cL_law 951 = .ok (.invokevirtual 121, 3))) zWd176 (zl_m zo197 zy176 zw_1099) (zl_i zy176 zw_1100) (zl_e zy176 zw_1101) (by decide) rfl (by rw [zo176])) <|
  zcons (a := (954, zi_b2 (fun x y => x = y) 1512 957)) (zs_icmpeq (M := 197) (pc := 954) (zd_eq zk197 (by decide +kernel : decode cL_law 954 = .ok (.if_icmp .eq 558, 3))) (by decide)) <|
  zcons (a := (957, zi_k (.int 0) 958)) (zs_iconst (M := 197) (pc := 957) (zd_eq zk197 (by decide +kernel : decode cL_law 957 = .ok (.iconst 0, 1))) (by decide)) <|
  zcons (a := (958, zi_rz)) (zs_rz (M := 197) (pc := 958) (zd_eq zk197 (by decide +kernel : decode cL_law 958 = .ok (.ireturn, 1))) rfl) <|
  zcons (a := (959, zi_al 1 960)) (zs_al_n (M := 197) (pc := 959) (zd_eq zk197 (by decide +kernel : decode cL_law 959 = .ok (.aload_n 1, 1)))) <|
  zcons (a := (960, zi_al 0 961)) (zs_al_n (M := 197) (pc := 960) (zd_eq zk197 (by decide +kernel : decode cL_law 960 = .ok (.aload_n 0, 1)))) <|
  zcons (a := (961, zi_il 3 962)) (zs_il_n (M := 197) (pc := 961) (zd_eq zk197 (by decide +kernel : decode cL_law 961 = .ok (.iload_n 3, 1)))) <|
  zcons (a := (962, zi_k (.int 1) 963)) (zs_iconst (M := 197) (pc := 962) (zd_eq zk197 (by decide +kernel : decode cL_law 962 = .ok (.iconst 1, 1))) (by decide)) <|
  zcons (a := (963, zi_bin (· + ·) 964)) (zs_iadd (M := 197) (pc := 963) (zd_eq zk197 (by decide +kernel : decode cL_law 963 = .ok (.iadd, 1)))) <|
  zcons (a := (964, zi_sld 965)) (zs_sld (M := 197) (pc := 964) (zd_eq zk197 (by decide +kernel : decode cL_law 964 = .ok (.iaload, 1)))) <|
  zcons (a := (965, zi_al 0 966)) (zs_al_n (M := 197) (pc := 965) (zd_eq zk197 (by decide +kernel : decode cL_law 965 = .ok (.aload_n 0, 1)))) <|
  zcons (a := (966, zi_il 3 967)) (zs_il_n (M := 197) (pc := 966) (zd_eq zk197 (by decide +kernel : decode cL_law 966 = .ok (.iload_n 3, 1)))) <|
  zcons (a := (967, zi_k (.int 2) 968)) (zs_iconst (M := 197) (pc := 967) (zd_eq zk197 (by decide +kernel : decode cL_law 967 = .ok (.iconst 2, 1))) (by decide)) <|
  zcons (a := (968, zi_bin (· + ·) 969)) (zs_iadd (M := 197) (pc := 968) (zd_eq zk197 (by decide +kernel : decode cL_law 968 = .ok (.iadd, 1)))) <|
  zcons (a := (969, zi_sld 970)) (zs_sld (M := 197) (pc := 969) (zd_eq zk197 (by decide +kernel : decode cL_law 969 = .ok (.iaload, 1)))) <|
  zcons (a := (970, zi_cv 88 2 6 973 1)) (zs_cv (M := 197) (pc := 970) (M' := 88) (k := 2) (kd := 1) (ci := 6) (q := (RX6, TX6, 14)) (zd_eq zk197 (by decide +kernel : decode cL_law 970 = .ok (.invokevirtual 122, 3))) zWd88 (zl_m zo197 zy88 zw_655) (zl_i zy88 zw_656) (zl_e zy88 zw_657) (by decide) rfl (by rw [zo88])) <|
  zcons (a := (973, zi_al 2 974)) (zs_al_n (M := 197) (pc := 973) (zd_eq zk197 (by decide +kernel : decode cL_law 973 = .ok (.aload_n 2, 1)))) <|
  zcons (a := (974, zi_al 0 975)) (zs_al_n (M := 197) (pc := 974) (zd_eq zk197 (by decide +kernel : decode cL_law 974 = .ok (.aload_n 0, 1)))) <|
  zcons (a := (975, zi_il 3 976)) (zs_il_n (M := 197) (pc := 975) (zd_eq zk197 (by decide +kernel : decode cL_law 975 = .ok (.iload_n 3, 1)))) <|
  zcons (a := (976, zi_k (.int 1) 977)) (zs_iconst (M := 197) (pc := 976) (zd_eq zk197 (by decide +kernel : decode cL_law 976 = .ok (.iconst 1, 1))) (by decide)) <|
  zcons (a := (977, zi_bin (· + ·) 978)) (zs_iadd (M := 197) (pc := 977) (zd_eq zk197 (by decide +kernel : decode cL_law 977 = .ok (.iadd, 1)))) <|
  zcons (a := (978, zi_sld 979)) (zs_sld (M := 197) (pc := 978) (zd_eq zk197 (by decide +kernel : decode cL_law 978 = .ok (.iaload, 1)))) <|
  zcons (a := (979, zi_al 0 980)) (zs_al_n (M := 197) (pc := 979) (zd_eq zk197 (by decide +kernel : decode cL_law 979 = .ok (.aload_n 0, 1)))) <| znil
set_option maxRecDepth 100000 in
theorem zS197_26 : ∀ q ∈ zm_c197_26, zm_Snd 197 q.1 q.2 :=
  zcons (a := (980, zi_il 3 981)) (zs_il_n (M := 197) (pc := 980) (zd_eq zk197 (by decide +kernel : decode cL_law 980 = .ok (.iload_n 3, 1)))) <|
  zcons (a := (981, zi_k (.int 2) 982)) (zs_iconst (M := 197) (pc := 981) (zd_eq zk197 (by decide +kernel : decode cL_law 981 = .ok (.iconst 2, 1))) (by decide)) <|
  zcons (a := (982, zi_bin (· + ·) 983)) (zs_iadd (M := 197) (pc := 982) (zd_eq zk197 (by decide +kernel : decode cL_law 982 = .ok (.iadd, 1)))) <|
  zcons (a := (983, zi_sld 984)) (zs_sld (M := 197) (pc := 983) (zd_eq zk197 (by decide +kernel : decode cL_law 983 = .ok (.iaload, 1)))) <|
  zcons (a := (984, zi_cv 177 2 7 987 1)) (zs_cv (M := 197) (pc := 984) (M' := 177) (k := 2) (kd := 1) (ci := 7) (q := (RX7, TX7, 26)) (zd_eq zk197 (by decide +kernel : decode cL_law 984 = .ok (.invokevirtual 125, 3))) zWd177 (zl_m zo197 zy177 zw_1103) (zl_i zy177 zw_1104) (zl_e zy177 zw_1105) (by decide) rfl (by rw [zo177])) <|
  zcons (a := (987, zi_b2 (fun x y => x = y) 1512 990)) (zs_icmpeq (M := 197) (pc := 987) (zd_eq zk197 (by decide +kernel : decode cL_law 987 = .ok (.if_icmp .eq 525, 3))) (by decide)) <|
  zcons (a := (990, zi_k (.int 0) 991)) (zs_iconst (M := 197) (pc := 990) (zd_eq zk197 (by decide +kernel : decode cL_law 990 = .ok (.iconst 0, 1))) (by decide)) <|
  zcons (a := (991, zi_rz)) (zs_rz (M := 197) (pc := 991) (zd_eq zk197 (by decide +kernel : decode cL_law 991 = .ok (.ireturn, 1))) rfl) <|
  zcons (a := (992, zi_al 1 993)) (zs_al_n (M := 197) (pc := 992) (zd_eq zk197 (by decide +kernel : decode cL_law 992 = .ok (.aload_n 1, 1)))) <|
  zcons (a := (993, zi_al 0 994)) (zs_al_n (M := 197) (pc := 993) (zd_eq zk197 (by decide +kernel : decode cL_law 993 = .ok (.aload_n 0, 1)))) <|
  zcons (a := (994, zi_il 3 995)) (zs_il_n (M := 197) (pc := 994) (zd_eq zk197 (by decide +kernel : decode cL_law 994 = .ok (.iload_n 3, 1)))) <|
  zcons (a := (995, zi_k (.int 1) 996)) (zs_iconst (M := 197) (pc := 995) (zd_eq zk197 (by decide +kernel : decode cL_law 995 = .ok (.iconst 1, 1))) (by decide)) <|
  zcons (a := (996, zi_bin (· + ·) 997)) (zs_iadd (M := 197) (pc := 996) (zd_eq zk197 (by decide +kernel : decode cL_law 996 = .ok (.iadd, 1)))) <|
  zcons (a := (997, zi_sld 998)) (zs_sld (M := 197) (pc := 997) (zd_eq zk197 (by decide +kernel : decode cL_law 997 = .ok (.iaload, 1)))) <|
  zcons (a := (998, zi_al 0 999)) (zs_al_n (M := 197) (pc := 998) (zd_eq zk197 (by decide +kernel : decode cL_law 998 = .ok (.aload_n 0, 1)))) <|
  zcons (a := (999, zi_il 3 1000)) (zs_il_n (M := 197) (pc := 999) (zd_eq zk197 (by decide +kernel : decode cL_law 999 = .ok (.iload_n 3, 1)))) <|
  zcons (a := (1000, zi_k (.int 2) 1001)) (zs_iconst (M := 197) (pc := 1000) (zd_eq zk197 (by decide +kernel : decode cL_law 1000 = .ok (.iconst 2, 1))) (by decide)) <|
  zcons (a := (1001, zi_bin (· + ·) 1002)) (zs_iadd (M := 197) (pc := 1001) (zd_eq zk197 (by decide +kernel : decode cL_law 1001 = .ok (.iadd, 1)))) <|
  zcons (a := (1002, zi_sld 1003)) (zs_sld (M := 197) (pc := 1002) (zd_eq zk197 (by decide +kernel : decode cL_law 1002 = .ok (.iaload, 1)))) <|
  zcons (a := (1003, zi_al 0 1004)) (zs_al_n (M := 197) (pc := 1003) (zd_eq zk197 (by decide +kernel : decode cL_law 1003 = .ok (.aload_n 0, 1)))) <|
  zcons (a := (1004, zi_il 3 1005)) (zs_il_n (M := 197) (pc := 1004) (zd_eq zk197 (by decide +kernel : decode cL_law 1004 = .ok (.iload_n 3, 1)))) <|
  zcons (a := (1005, zi_k (.int 3) 1006)) (zs_iconst (M := 197) (pc := 1005) (zd_eq zk197 (by decide +kernel : decode cL_law 1005 = .ok (.iconst 3, 1))) (by decide)) <|
  zcons (a := (1006, zi_bin (· + ·) 1007)) (zs_iadd (M := 197) (pc := 1006) (zd_eq zk197 (by decide +kernel : decode cL_law 1006 = .ok (.iadd, 1)))) <|
  zcons (a := (1007, zi_sld 1008)) (zs_sld (M := 197) (pc := 1007) (zd_eq zk197 (by decide +kernel : decode cL_law 1007 = .ok (.iaload, 1)))) <| znil
set_option maxRecDepth 100000 in
theorem zS197_27 : ∀ q ∈ zm_c197_27, zm_Snd 197 q.1 q.2 :=
  zcons (a := (1008, zi_cv 89 3 6 1011 2)) (zs_cv (M := 197) (pc := 1008) (M' := 89) (k := 3) (kd := 2) (ci := 6) (q := (RX6, TX6, 14)) (zd_eq zk197 (by decide +kernel : decode cL_law 1008 = .ok (.invokevirtual 126, 3))) zWd89 (zl_m zo197 zy89 zw_660) (zl_i zy89 zw_661) (zl_e zy89 zw_662) (by decide) rfl (by rw [zo89])) <|
  zcons (a := (1011, zi_al 2 1012)) (zs_al_n (M := 197) (pc := 1011) (zd_eq zk197 (by decide +kernel : decode cL_law 1011 = .ok (.aload_n 2, 1)))) <|
  zcons (a := (1012, zi_al 0 1013)) (zs_al_n (M := 197) (pc := 1012) (zd_eq zk197 (by decide +kernel : decode cL_law 1012 = .ok (.aload_n 0, 1)))) <|
  zcons (a := (1013, zi_il 3 1014)) (zs_il_n (M := 197) (pc := 1013) (zd_eq zk197 (by decide +kernel : decode cL_law 1013 = .ok (.iload_n 3, 1)))) <|
  zcons (a := (1014, zi_k (.int 1) 1015)) (zs_iconst (M := 197) (pc := 1014) (zd_eq zk197 (by decide +kernel : decode cL_law 1014 = .ok (.iconst 1, 1))) (by decide)) <|
  zcons (a := (1015, zi_bin (· + ·) 1016)) (zs_iadd (M := 197) (pc := 1015) (zd_eq zk197 (by decide +kernel : decode cL_law 1015 = .ok (.iadd, 1)))) <|
  zcons (a := (1016, zi_sld 1017)) (zs_sld (M := 197) (pc := 1016) (zd_eq zk197 (by decide +kernel : decode cL_law 1016 = .ok (.iaload, 1)))) <|
  zcons (a := (1017, zi_al 0 1018)) (zs_al_n (M := 197) (pc := 1017) (zd_eq zk197 (by decide +kernel : decode cL_law 1017 = .ok (.aload_n 0, 1)))) <|
  zcons (a := (1018, zi_il 3 1019)) (zs_il_n (M := 197) (pc := 1018) (zd_eq zk197 (by decide +kernel : decode cL_law 1018 = .ok (.iload_n 3, 1)))) <|
  zcons (a := (1019, zi_k (.int 2) 1020)) (zs_iconst (M := 197) (pc := 1019) (zd_eq zk197 (by decide +kernel : decode cL_law 1019 = .ok (.iconst 2, 1))) (by decide)) <|
  zcons (a := (1020, zi_bin (· + ·) 1021)) (zs_iadd (M := 197) (pc := 1020) (zd_eq zk197 (by decide +kernel : decode cL_law 1020 = .ok (.iadd, 1)))) <|
  zcons (a := (1021, zi_sld 1022)) (zs_sld (M := 197) (pc := 1021) (zd_eq zk197 (by decide +kernel : decode cL_law 1021 = .ok (.iaload, 1)))) <|
  zcons (a := (1022, zi_al 0 1023)) (zs_al_n (M := 197) (pc := 1022) (zd_eq zk197 (by decide +kernel : decode cL_law 1022 = .ok (.aload_n 0, 1)))) <|
  zcons (a := (1023, zi_il 3 1024)) (zs_il_n (M := 197) (pc := 1023) (zd_eq zk197 (by decide +kernel : decode cL_law 1023 = .ok (.iload_n 3, 1)))) <|
  zcons (a := (1024, zi_k (.int 3) 1025)) (zs_iconst (M := 197) (pc := 1024) (zd_eq zk197 (by decide +kernel : decode cL_law 1024 = .ok (.iconst 3, 1))) (by decide)) <|
  zcons (a := (1025, zi_bin (· + ·) 1026)) (zs_iadd (M := 197) (pc := 1025) (zd_eq zk197 (by decide +kernel : decode cL_law 1025 = .ok (.iadd, 1)))) <|
  zcons (a := (1026, zi_sld 1027)) (zs_sld (M := 197) (pc := 1026) (zd_eq zk197 (by decide +kernel : decode cL_law 1026 = .ok (.iaload, 1)))) <|
  zcons (a := (1027, zi_cv 179 3 7 1030 2)) (zs_cv (M := 197) (pc := 1027) (M' := 179) (k := 3) (kd := 2) (ci := 7) (q := (RX7, TX7, 26)) (zd_eq zk197 (by decide +kernel : decode cL_law 1027 = .ok (.invokevirtual 129, 3))) zWd179 (zl_m zo197 zy179 zw_1107) (zl_i zy179 zw_1108) (zl_e zy179 zw_1109) (by decide) rfl (by rw [zo179])) <|
  zcons (a := (1030, zi_lcmp 1031)) (zs_lcmp (M := 197) (pc := 1030) (zd_eq zk197 (by decide +kernel : decode cL_law 1030 = .ok (.lcmp, 1)))) <|
  zcons (a := (1031, zi_b1 (fun x => x = 0) 1512 1034)) (zs_ifeq (M := 197) (pc := 1031) (zd_eq zk197 (by decide +kernel : decode cL_law 1031 = .ok (.ifCond .eq 481, 3))) (by decide)) <|
  zcons (a := (1034, zi_k (.int 0) 1035)) (zs_iconst (M := 197) (pc := 1034) (zd_eq zk197 (by decide +kernel : decode cL_law 1034 = .ok (.iconst 0, 1))) (by decide)) <|
  zcons (a := (1035, zi_rz)) (zs_rz (M := 197) (pc := 1035) (zd_eq zk197 (by decide +kernel : decode cL_law 1035 = .ok (.ireturn, 1))) rfl) <|
  zcons (a := (1036, zi_al 1 1037)) (zs_al_n (M := 197) (pc := 1036) (zd_eq zk197 (by decide +kernel : decode cL_law 1036 = .ok (.aload_n 1, 1)))) <|
  zcons (a := (1037, zi_al 0 1038)) (zs_al_n (M := 197) (pc := 1037) (zd_eq zk197 (by decide +kernel : decode cL_law 1037 = .ok (.aload_n 0, 1)))) <| znil
set_option maxRecDepth 100000 in
theorem zS197_28 : ∀ q ∈ zm_c197_28, zm_Snd 197 q.1 q.2 :=
  zcons (a := (1038, zi_il 3 1039)) (zs_il_n (M := 197) (pc := 1038) (zd_eq zk197 (by decide +kernel : decode cL_law 1038 = .ok (.iload_n 3, 1)))) <|
  zcons (a := (1039, zi_k (.int 1) 1040)) (zs_iconst (M := 197) (pc := 1039) (zd_eq zk197 (by decide +kernel : decode cL_law 1039 = .ok (.iconst 1, 1))) (by decide)) <|
  zcons (a := (1040, zi_bin (· + ·) 1041)) (zs_iadd (M := 197) (pc := 1040) (zd_eq zk197 (by decide +kernel : decode cL_law 1040 = .ok (.iadd, 1)))) <|
  zcons (a := (1041, zi_sld 1042)) (zs_sld (M := 197) (pc := 1041) (zd_eq zk197 (by decide +kernel : decode cL_law 1041 = .ok (.iaload, 1)))) <|
  zcons (a := (1042, zi_al 0 1043)) (zs_al_n (M := 197) (pc := 1042) (zd_eq zk197 (by decide +kernel : decode cL_law 1042 = .ok (.aload_n 0, 1)))) <|
  zcons (a := (1043, zi_il 3 1044)) (zs_il_n (M := 197) (pc := 1043) (zd_eq zk197 (by decide +kernel : decode cL_law 1043 = .ok (.iload_n 3, 1)))) <|
  zcons (a := (1044, zi_k (.int 2) 1045)) (zs_iconst (M := 197) (pc := 1044) (zd_eq zk197 (by decide +kernel : decode cL_law 1044 = .ok (.iconst 2, 1))) (by decide)) <|
  zcons (a := (1045, zi_bin (· + ·) 1046)) (zs_iadd (M := 197) (pc := 1045) (zd_eq zk197 (by decide +kernel : decode cL_law 1045 = .ok (.iadd, 1)))) <|
  zcons (a := (1046, zi_sld 1047)) (zs_sld (M := 197) (pc := 1046) (zd_eq zk197 (by decide +kernel : decode cL_law 1046 = .ok (.iaload, 1)))) <|
  zcons (a := (1047, zi_al 0 1048)) (zs_al_n (M := 197) (pc := 1047) (zd_eq zk197 (by decide +kernel : decode cL_law 1047 = .ok (.aload_n 0, 1)))) <|
  zcons (a := (1048, zi_il 3 1049)) (zs_il_n (M := 197) (pc := 1048) (zd_eq zk197 (by decide +kernel : decode cL_law 1048 = .ok (.iload_n 3, 1)))) <|
  zcons (a := (1049, zi_k (.int 3) 1050)) (zs_iconst (M := 197) (pc := 1049) (zd_eq zk197 (by decide +kernel : decode cL_law 1049 = .ok (.iconst 3, 1))) (by decide)) <|
  zcons (a := (1050, zi_bin (· + ·) 1051)) (zs_iadd (M := 197) (pc := 1050) (zd_eq zk197 (by decide +kernel : decode cL_law 1050 = .ok (.iadd, 1)))) <|
  zcons (a := (1051, zi_sld 1052)) (zs_sld (M := 197) (pc := 1051) (zd_eq zk197 (by decide +kernel : decode cL_law 1051 = .ok (.iaload, 1)))) <|
  zcons (a := (1052, zi_cv 90 3 6 1055 2)) (zs_cv (M := 197) (pc := 1052) (M' := 90) (k := 3) (kd := 2) (ci := 6) (q := (RX6, TX6, 14)) (zd_eq zk197 (by decide +kernel : decode cL_law 1052 = .ok (.invokevirtual 130, 3))) zWd90 (zl_m zo197 zy90 zw_677) (zl_i zy90 zw_678) (zl_e zy90 zw_679) (by decide) rfl (by rw [zo90])) <|
  zcons (a := (1055, zi_al 2 1056)) (zs_al_n (M := 197) (pc := 1055) (zd_eq zk197 (by decide +kernel : decode cL_law 1055 = .ok (.aload_n 2, 1)))) <|
  zcons (a := (1056, zi_al 0 1057)) (zs_al_n (M := 197) (pc := 1056) (zd_eq zk197 (by decide +kernel : decode cL_law 1056 = .ok (.aload_n 0, 1)))) <|
  zcons (a := (1057, zi_il 3 1058)) (zs_il_n (M := 197) (pc := 1057) (zd_eq zk197 (by decide +kernel : decode cL_law 1057 = .ok (.iload_n 3, 1)))) <|
  zcons (a := (1058, zi_k (.int 1) 1059)) (zs_iconst (M := 197) (pc := 1058) (zd_eq zk197 (by decide +kernel : decode cL_law 1058 = .ok (.iconst 1, 1))) (by decide)) <|
  zcons (a := (1059, zi_bin (· + ·) 1060)) (zs_iadd (M := 197) (pc := 1059) (zd_eq zk197 (by decide +kernel : decode cL_law 1059 = .ok (.iadd, 1)))) <|
  zcons (a := (1060, zi_sld 1061)) (zs_sld (M := 197) (pc := 1060) (zd_eq zk197 (by decide +kernel : decode cL_law 1060 = .ok (.iaload, 1)))) <|
  zcons (a := (1061, zi_al 0 1062)) (zs_al_n (M := 197) (pc := 1061) (zd_eq zk197 (by decide +kernel : decode cL_law 1061 = .ok (.aload_n 0, 1)))) <|
  zcons (a := (1062, zi_il 3 1063)) (zs_il_n (M := 197) (pc := 1062) (zd_eq zk197 (by decide +kernel : decode cL_law 1062 = .ok (.iload_n 3, 1)))) <|
  zcons (a := (1063, zi_k (.int 2) 1064)) (zs_iconst (M := 197) (pc := 1063) (zd_eq zk197 (by decide +kernel : decode cL_law 1063 = .ok (.iconst 2, 1))) (by decide)) <| znil
set_option maxRecDepth 100000 in
theorem zS197_29 : ∀ q ∈ zm_c197_29, zm_Snd 197 q.1 q.2 :=
  zcons (a := (1064, zi_bin (· + ·) 1065)) (zs_iadd (M := 197) (pc := 1064) (zd_eq zk197 (by decide +kernel : decode cL_law 1064 = .ok (.iadd, 1)))) <|
  zcons (a := (1065, zi_sld 1066)) (zs_sld (M := 197) (pc := 1065) (zd_eq zk197 (by decide +kernel : decode cL_law 1065 = .ok (.iaload, 1)))) <|
  zcons (a := (1066, zi_al 0 1067)) (zs_al_n (M := 197) (pc := 1066) (zd_eq zk197 (by decide +kernel : decode cL_law 1066 = .ok (.aload_n 0, 1)))) <|
  zcons (a := (1067, zi_il 3 1068)) (zs_il_n (M := 197) (pc := 1067) (zd_eq zk197 (by decide +kernel : decode cL_law 1067 = .ok (.iload_n 3, 1)))) <|
  zcons (a := (1068, zi_k (.int 3) 1069)) (zs_iconst (M := 197) (pc := 1068) (zd_eq zk197 (by decide +kernel : decode cL_law 1068 = .ok (.iconst 3, 1))) (by decide)) <|
  zcons (a := (1069, zi_bin (· + ·) 1070)) (zs_iadd (M := 197) (pc := 1069) (zd_eq zk197 (by decide +kernel : decode cL_law 1069 = .ok (.iadd, 1)))) <|
  zcons (a := (1070, zi_sld 1071)) (zs_sld (M := 197) (pc := 1070) (zd_eq zk197 (by decide +kernel : decode cL_law 1070 = .ok (.iaload, 1)))) <|
  zcons (a := (1071, zi_cv 180 3 7 1074 2)) (zs_cv (M := 197) (pc := 1071) (M' := 180) (k := 3) (kd := 2) (ci := 7) (q := (RX7, TX7, 26)) (zd_eq zk197 (by decide +kernel : decode cL_law 1071 = .ok (.invokevirtual 133, 3))) zWd180 (zl_m zo197 zy180 zw_1116) (zl_i zy180 zw_1117) (zl_e zy180 zw_1118) (by decide) rfl (by rw [zo180])) <|
  zcons (a := (1074, zi_lcmp 1075)) (zs_lcmp (M := 197) (pc := 1074) (zd_eq zk197 (by decide +kernel : decode cL_law 1074 = .ok (.lcmp, 1)))) <|
  zcons (a := (1075, zi_b1 (fun x => x = 0) 1512 1078)) (zs_ifeq (M := 197) (pc := 1075) (zd_eq zk197 (by decide +kernel : decode cL_law 1075 = .ok (.ifCond .eq 437, 3))) (by decide)) <|
  zcons (a := (1078, zi_k (.int 0) 1079)) (zs_iconst (M := 197) (pc := 1078) (zd_eq zk197 (by decide +kernel : decode cL_law 1078 = .ok (.iconst 0, 1))) (by decide)) <|
  zcons (a := (1079, zi_rz)) (zs_rz (M := 197) (pc := 1079) (zd_eq zk197 (by decide +kernel : decode cL_law 1079 = .ok (.ireturn, 1))) rfl) <|
  zcons (a := (1080, zi_al 1 1081)) (zs_al_n (M := 197) (pc := 1080) (zd_eq zk197 (by decide +kernel : decode cL_law 1080 = .ok (.aload_n 1, 1)))) <|
  zcons (a := (1081, zi_al 0 1082)) (zs_al_n (M := 197) (pc := 1081) (zd_eq zk197 (by decide +kernel : decode cL_law 1081 = .ok (.aload_n 0, 1)))) <|
  zcons (a := (1082, zi_il 3 1083)) (zs_il_n (M := 197) (pc := 1082) (zd_eq zk197 (by decide +kernel : decode cL_law 1082 = .ok (.iload_n 3, 1)))) <|
  zcons (a := (1083, zi_k (.int 1) 1084)) (zs_iconst (M := 197) (pc := 1083) (zd_eq zk197 (by decide +kernel : decode cL_law 1083 = .ok (.iconst 1, 1))) (by decide)) <|
  zcons (a := (1084, zi_bin (· + ·) 1085)) (zs_iadd (M := 197) (pc := 1084) (zd_eq zk197 (by decide +kernel : decode cL_law 1084 = .ok (.iadd, 1)))) <|
  zcons (a := (1085, zi_sld 1086)) (zs_sld (M := 197) (pc := 1085) (zd_eq zk197 (by decide +kernel : decode cL_law 1085 = .ok (.iaload, 1)))) <|
  zcons (a := (1086, zi_al 0 1087)) (zs_al_n (M := 197) (pc := 1086) (zd_eq zk197 (by decide +kernel : decode cL_law 1086 = .ok (.aload_n 0, 1)))) <|
  zcons (a := (1087, zi_il 3 1088)) (zs_il_n (M := 197) (pc := 1087) (zd_eq zk197 (by decide +kernel : decode cL_law 1087 = .ok (.iload_n 3, 1)))) <|
  zcons (a := (1088, zi_k (.int 2) 1089)) (zs_iconst (M := 197) (pc := 1088) (zd_eq zk197 (by decide +kernel : decode cL_law 1088 = .ok (.iconst 2, 1))) (by decide)) <|
  zcons (a := (1089, zi_bin (· + ·) 1090)) (zs_iadd (M := 197) (pc := 1089) (zd_eq zk197 (by decide +kernel : decode cL_law 1089 = .ok (.iadd, 1)))) <|
  zcons (a := (1090, zi_sld 1091)) (zs_sld (M := 197) (pc := 1090) (zd_eq zk197 (by decide +kernel : decode cL_law 1090 = .ok (.iaload, 1)))) <|
  zcons (a := (1091, zi_cv 91 2 6 1094 1)) (zs_cv (M := 197) (pc := 1091) (M' := 91) (k := 2) (kd := 1) (ci := 6) (q := (RX6, TX6, 14)) (zd_eq zk197 (by decide +kernel : decode cL_law 1091 = .ok (.invokevirtual 134, 3))) zWd91 (zl_m zo197 zy91 zw_681) (zl_i zy91 zw_682) (zl_e zy91 zw_683) (by decide) rfl (by rw [zo91])) <| znil
set_option maxRecDepth 100000 in
theorem zS197_30 : ∀ q ∈ zm_c197_30, zm_Snd 197 q.1 q.2 :=
  zcons (a := (1094, zi_al 2 1095)) (zs_al_n (M := 197) (pc := 1094) (zd_eq zk197 (by decide +kernel : decode cL_law 1094 = .ok (.aload_n 2, 1)))) <|
  zcons (a := (1095, zi_al 0 1096)) (zs_al_n (M := 197) (pc := 1095) (zd_eq zk197 (by decide +kernel : decode cL_law 1095 = .ok (.aload_n 0, 1)))) <|
  zcons (a := (1096, zi_il 3 1097)) (zs_il_n (M := 197) (pc := 1096) (zd_eq zk197 (by decide +kernel : decode cL_law 1096 = .ok (.iload_n 3, 1)))) <|
  zcons (a := (1097, zi_k (.int 1) 1098)) (zs_iconst (M := 197) (pc := 1097) (zd_eq zk197 (by decide +kernel : decode cL_law 1097 = .ok (.iconst 1, 1))) (by decide)) <|
  zcons (a := (1098, zi_bin (· + ·) 1099)) (zs_iadd (M := 197) (pc := 1098) (zd_eq zk197 (by decide +kernel : decode cL_law 1098 = .ok (.iadd, 1)))) <|
  zcons (a := (1099, zi_sld 1100)) (zs_sld (M := 197) (pc := 1099) (zd_eq zk197 (by decide +kernel : decode cL_law 1099 = .ok (.iaload, 1)))) <|
  zcons (a := (1100, zi_al 0 1101)) (zs_al_n (M := 197) (pc := 1100) (zd_eq zk197 (by decide +kernel : decode cL_law 1100 = .ok (.aload_n 0, 1)))) <|
  zcons (a := (1101, zi_il 3 1102)) (zs_il_n (M := 197) (pc := 1101) (zd_eq zk197 (by decide +kernel : decode cL_law 1101 = .ok (.iload_n 3, 1)))) <|
  zcons (a := (1102, zi_k (.int 2) 1103)) (zs_iconst (M := 197) (pc := 1102) (zd_eq zk197 (by decide +kernel : decode cL_law 1102 = .ok (.iconst 2, 1))) (by decide)) <|
  zcons (a := (1103, zi_bin (· + ·) 1104)) (zs_iadd (M := 197) (pc := 1103) (zd_eq zk197 (by decide +kernel : decode cL_law 1103 = .ok (.iadd, 1)))) <|
  zcons (a := (1104, zi_sld 1105)) (zs_sld (M := 197) (pc := 1104) (zd_eq zk197 (by decide +kernel : decode cL_law 1104 = .ok (.iaload, 1)))) <|
  zcons (a := (1105, zi_cv 181 2 7 1108 1)) (zs_cv (M := 197) (pc := 1105) (M' := 181) (k := 2) (kd := 1) (ci := 7) (q := (RX7, TX7, 26)) (zd_eq zk197 (by decide +kernel : decode cL_law 1105 = .ok (.invokevirtual 137, 3))) zWd181 (zl_m zo197 zy181 zw_1120) (zl_i zy181 zw_1121) (zl_e zy181 zw_1122) (by decide) rfl (by rw [zo181])) <|
  zcons (a := (1108, zi_b2 (fun x y => x = y) 1512 1111)) (zs_icmpeq (M := 197) (pc := 1108) (zd_eq zk197 (by decide +kernel : decode cL_law 1108 = .ok (.if_icmp .eq 404, 3))) (by decide)) <|
  zcons (a := (1111, zi_k (.int 0) 1112)) (zs_iconst (M := 197) (pc := 1111) (zd_eq zk197 (by decide +kernel : decode cL_law 1111 = .ok (.iconst 0, 1))) (by decide)) <|
  zcons (a := (1112, zi_rz)) (zs_rz (M := 197) (pc := 1112) (zd_eq zk197 (by decide +kernel : decode cL_law 1112 = .ok (.ireturn, 1))) rfl) <|
  zcons (a := (1113, zi_al 1 1114)) (zs_al_n (M := 197) (pc := 1113) (zd_eq zk197 (by decide +kernel : decode cL_law 1113 = .ok (.aload_n 1, 1)))) <|
  zcons (a := (1114, zi_al 0 1115)) (zs_al_n (M := 197) (pc := 1114) (zd_eq zk197 (by decide +kernel : decode cL_law 1114 = .ok (.aload_n 0, 1)))) <|
  zcons (a := (1115, zi_il 3 1116)) (zs_il_n (M := 197) (pc := 1115) (zd_eq zk197 (by decide +kernel : decode cL_law 1115 = .ok (.iload_n 3, 1)))) <|
  zcons (a := (1116, zi_k (.int 1) 1117)) (zs_iconst (M := 197) (pc := 1116) (zd_eq zk197 (by decide +kernel : decode cL_law 1116 = .ok (.iconst 1, 1))) (by decide)) <|
  zcons (a := (1117, zi_bin (· + ·) 1118)) (zs_iadd (M := 197) (pc := 1117) (zd_eq zk197 (by decide +kernel : decode cL_law 1117 = .ok (.iadd, 1)))) <|
  zcons (a := (1118, zi_sld 1119)) (zs_sld (M := 197) (pc := 1118) (zd_eq zk197 (by decide +kernel : decode cL_law 1118 = .ok (.iaload, 1)))) <|
  zcons (a := (1119, zi_cv 92 1 6 1122 1)) (zs_cv (M := 197) (pc := 1119) (M' := 92) (k := 1) (kd := 1) (ci := 6) (q := (RX6, TX6, 14)) (zd_eq zk197 (by decide +kernel : decode cL_law 1119 = .ok (.invokevirtual 138, 3))) zWd92 (zl_m zo197 zy92 zw_685) (zl_i zy92 zw_686) (zl_e zy92 zw_687) (by decide) rfl (by rw [zo92])) <|
  zcons (a := (1122, zi_al 2 1123)) (zs_al_n (M := 197) (pc := 1122) (zd_eq zk197 (by decide +kernel : decode cL_law 1122 = .ok (.aload_n 2, 1)))) <|
  zcons (a := (1123, zi_al 0 1124)) (zs_al_n (M := 197) (pc := 1123) (zd_eq zk197 (by decide +kernel : decode cL_law 1123 = .ok (.aload_n 0, 1)))) <| znil
set_option maxRecDepth 100000 in
theorem zS197_31 : ∀ q ∈ zm_c197_31, zm_Snd 197 q.1 q.2 :=
  zcons (a := (1124, zi_il 3 1125)) (zs_il_n (M := 197) (pc := 1124) (zd_eq zk197 (by decide +kernel : decode cL_law 1124 = .ok (.iload_n 3, 1)))) <|
  zcons (a := (1125, zi_k (.int 1) 1126)) (zs_iconst (M := 197) (pc := 1125) (zd_eq zk197 (by decide +kernel : decode cL_law 1125 = .ok (.iconst 1, 1))) (by decide)) <|
  zcons (a := (1126, zi_bin (· + ·) 1127)) (zs_iadd (M := 197) (pc := 1126) (zd_eq zk197 (by decide +kernel : decode cL_law 1126 = .ok (.iadd, 1)))) <|
  zcons (a := (1127, zi_sld 1128)) (zs_sld (M := 197) (pc := 1127) (zd_eq zk197 (by decide +kernel : decode cL_law 1127 = .ok (.iaload, 1)))) <|
  zcons (a := (1128, zi_cv 182 1 7 1131 1)) (zs_cv (M := 197) (pc := 1128) (M' := 182) (k := 1) (kd := 1) (ci := 7) (q := (RX7, TX7, 26)) (zd_eq zk197 (by decide +kernel : decode cL_law 1128 = .ok (.invokevirtual 141, 3))) zWd182 (zl_m zo197 zy182 zw_1124) (zl_i zy182 zw_1125) (zl_e zy182 zw_1126) (by decide) rfl (by rw [zo182])) <|
  zcons (a := (1131, zi_b2 (fun x y => x = y) 1512 1134)) (zs_icmpeq (M := 197) (pc := 1131) (zd_eq zk197 (by decide +kernel : decode cL_law 1131 = .ok (.if_icmp .eq 381, 3))) (by decide)) <|
  zcons (a := (1134, zi_k (.int 0) 1135)) (zs_iconst (M := 197) (pc := 1134) (zd_eq zk197 (by decide +kernel : decode cL_law 1134 = .ok (.iconst 0, 1))) (by decide)) <|
  zcons (a := (1135, zi_rz)) (zs_rz (M := 197) (pc := 1135) (zd_eq zk197 (by decide +kernel : decode cL_law 1135 = .ok (.ireturn, 1))) rfl) <|
  zcons (a := (1136, zi_al 1 1137)) (zs_al_n (M := 197) (pc := 1136) (zd_eq zk197 (by decide +kernel : decode cL_law 1136 = .ok (.aload_n 1, 1)))) <|
  zcons (a := (1137, zi_al 0 1138)) (zs_al_n (M := 197) (pc := 1137) (zd_eq zk197 (by decide +kernel : decode cL_law 1137 = .ok (.aload_n 0, 1)))) <|
  zcons (a := (1138, zi_il 3 1139)) (zs_il_n (M := 197) (pc := 1138) (zd_eq zk197 (by decide +kernel : decode cL_law 1138 = .ok (.iload_n 3, 1)))) <|
  zcons (a := (1139, zi_k (.int 1) 1140)) (zs_iconst (M := 197) (pc := 1139) (zd_eq zk197 (by decide +kernel : decode cL_law 1139 = .ok (.iconst 1, 1))) (by decide)) <|
  zcons (a := (1140, zi_bin (· + ·) 1141)) (zs_iadd (M := 197) (pc := 1140) (zd_eq zk197 (by decide +kernel : decode cL_law 1140 = .ok (.iadd, 1)))) <|
  zcons (a := (1141, zi_sld 1142)) (zs_sld (M := 197) (pc := 1141) (zd_eq zk197 (by decide +kernel : decode cL_law 1141 = .ok (.iaload, 1)))) <|
  zcons (a := (1142, zi_cv 93 1 6 1145 1)) (zs_cv (M := 197) (pc := 1142) (M' := 93) (k := 1) (kd := 1) (ci := 6) (q := (RX6, TX6, 14)) (zd_eq zk197 (by decide +kernel : decode cL_law 1142 = .ok (.invokevirtual 142, 3))) zWd93 (zl_m zo197 zy93 zw_689) (zl_i zy93 zw_690) (zl_e zy93 zw_691) (by decide) rfl (by rw [zo93])) <|
  zcons (a := (1145, zi_al 2 1146)) (zs_al_n (M := 197) (pc := 1145) (zd_eq zk197 (by decide +kernel : decode cL_law 1145 = .ok (.aload_n 2, 1)))) <|
  zcons (a := (1146, zi_al 0 1147)) (zs_al_n (M := 197) (pc := 1146) (zd_eq zk197 (by decide +kernel : decode cL_law 1146 = .ok (.aload_n 0, 1)))) <|
  zcons (a := (1147, zi_il 3 1148)) (zs_il_n (M := 197) (pc := 1147) (zd_eq zk197 (by decide +kernel : decode cL_law 1147 = .ok (.iload_n 3, 1)))) <|
  zcons (a := (1148, zi_k (.int 1) 1149)) (zs_iconst (M := 197) (pc := 1148) (zd_eq zk197 (by decide +kernel : decode cL_law 1148 = .ok (.iconst 1, 1))) (by decide)) <|
  zcons (a := (1149, zi_bin (· + ·) 1150)) (zs_iadd (M := 197) (pc := 1149) (zd_eq zk197 (by decide +kernel : decode cL_law 1149 = .ok (.iadd, 1)))) <|
  zcons (a := (1150, zi_sld 1151)) (zs_sld (M := 197) (pc := 1150) (zd_eq zk197 (by decide +kernel : decode cL_law 1150 = .ok (.iaload, 1)))) <|
  zcons (a := (1151, zi_cv 185 1 7 1154 1)) (zs_cv (M := 197) (pc := 1151) (M' := 185) (k := 1) (kd := 1) (ci := 7) (q := (RX7, TX7, 26)) (zd_eq zk197 (by decide +kernel : decode cL_law 1151 = .ok (.invokevirtual 145, 3))) zWd185 (zl_m zo197 zy185 zw_1128) (zl_i zy185 zw_1129) (zl_e zy185 zw_1130) (by decide) rfl (by rw [zo185])) <|
  zcons (a := (1154, zi_b2 (fun x y => x = y) 1512 1157)) (zs_icmpeq (M := 197) (pc := 1154) (zd_eq zk197 (by decide +kernel : decode cL_law 1154 = .ok (.if_icmp .eq 358, 3))) (by decide)) <|
  zcons (a := (1157, zi_k (.int 0) 1158)) (zs_iconst (M := 197) (pc := 1157) (zd_eq zk197 (by decide +kernel : decode cL_law 1157 = .ok (.iconst 0, 1))) (by decide)) <| znil
set_option maxRecDepth 100000 in
theorem zS197_32 : ∀ q ∈ zm_c197_32, zm_Snd 197 q.1 q.2 :=
  zcons (a := (1158, zi_rz)) (zs_rz (M := 197) (pc := 1158) (zd_eq zk197 (by decide +kernel : decode cL_law 1158 = .ok (.ireturn, 1))) rfl) <|
  zcons (a := (1159, zi_al 1 1160)) (zs_al_n (M := 197) (pc := 1159) (zd_eq zk197 (by decide +kernel : decode cL_law 1159 = .ok (.aload_n 1, 1)))) <|
  zcons (a := (1160, zi_al 0 1161)) (zs_al_n (M := 197) (pc := 1160) (zd_eq zk197 (by decide +kernel : decode cL_law 1160 = .ok (.aload_n 0, 1)))) <|
  zcons (a := (1161, zi_il 3 1162)) (zs_il_n (M := 197) (pc := 1161) (zd_eq zk197 (by decide +kernel : decode cL_law 1161 = .ok (.iload_n 3, 1)))) <|
  zcons (a := (1162, zi_k (.int 1) 1163)) (zs_iconst (M := 197) (pc := 1162) (zd_eq zk197 (by decide +kernel : decode cL_law 1162 = .ok (.iconst 1, 1))) (by decide)) <|
  zcons (a := (1163, zi_bin (· + ·) 1164)) (zs_iadd (M := 197) (pc := 1163) (zd_eq zk197 (by decide +kernel : decode cL_law 1163 = .ok (.iadd, 1)))) <|
  zcons (a := (1164, zi_sld 1165)) (zs_sld (M := 197) (pc := 1164) (zd_eq zk197 (by decide +kernel : decode cL_law 1164 = .ok (.iaload, 1)))) <|
  zcons (a := (1165, zi_cv 94 1 6 1168 1)) (zs_cv (M := 197) (pc := 1165) (M' := 94) (k := 1) (kd := 1) (ci := 6) (q := (RX6, TX6, 14)) (zd_eq zk197 (by decide +kernel : decode cL_law 1165 = .ok (.invokevirtual 146, 3))) zWd94 (zl_m zo197 zy94 zw_710) (zl_i zy94 zw_711) (zl_e zy94 zw_712) (by decide) rfl (by rw [zo94])) <|
  zcons (a := (1168, zi_al 2 1169)) (zs_al_n (M := 197) (pc := 1168) (zd_eq zk197 (by decide +kernel : decode cL_law 1168 = .ok (.aload_n 2, 1)))) <|
  zcons (a := (1169, zi_al 0 1170)) (zs_al_n (M := 197) (pc := 1169) (zd_eq zk197 (by decide +kernel : decode cL_law 1169 = .ok (.aload_n 0, 1)))) <|
  zcons (a := (1170, zi_il 3 1171)) (zs_il_n (M := 197) (pc := 1170) (zd_eq zk197 (by decide +kernel : decode cL_law 1170 = .ok (.iload_n 3, 1)))) <|
  zcons (a := (1171, zi_k (.int 1) 1172)) (zs_iconst (M := 197) (pc := 1171) (zd_eq zk197 (by decide +kernel : decode cL_law 1171 = .ok (.iconst 1, 1))) (by decide)) <|
  zcons (a := (1172, zi_bin (· + ·) 1173)) (zs_iadd (M := 197) (pc := 1172) (zd_eq zk197 (by decide +kernel : decode cL_law 1172 = .ok (.iadd, 1)))) <|
  zcons (a := (1173, zi_sld 1174)) (zs_sld (M := 197) (pc := 1173) (zd_eq zk197 (by decide +kernel : decode cL_law 1173 = .ok (.iaload, 1)))) <|
  zcons (a := (1174, zi_cv 186 1 7 1177 1)) (zs_cv (M := 197) (pc := 1174) (M' := 186) (k := 1) (kd := 1) (ci := 7) (q := (RX7, TX7, 26)) (zd_eq zk197 (by decide +kernel : decode cL_law 1174 = .ok (.invokevirtual 149, 3))) zWd186 (zl_m zo197 zy186 zw_1140) (zl_i zy186 zw_1141) (zl_e zy186 zw_1142) (by decide) rfl (by rw [zo186])) <|
  zcons (a := (1177, zi_b2 (fun x y => x = y) 1512 1180)) (zs_icmpeq (M := 197) (pc := 1177) (zd_eq zk197 (by decide +kernel : decode cL_law 1177 = .ok (.if_icmp .eq 335, 3))) (by decide)) <|
  zcons (a := (1180, zi_k (.int 0) 1181)) (zs_iconst (M := 197) (pc := 1180) (zd_eq zk197 (by decide +kernel : decode cL_law 1180 = .ok (.iconst 0, 1))) (by decide)) <|
  zcons (a := (1181, zi_rz)) (zs_rz (M := 197) (pc := 1181) (zd_eq zk197 (by decide +kernel : decode cL_law 1181 = .ok (.ireturn, 1))) rfl) <|
  zcons (a := (1182, zi_al 1 1183)) (zs_al_n (M := 197) (pc := 1182) (zd_eq zk197 (by decide +kernel : decode cL_law 1182 = .ok (.aload_n 1, 1)))) <|
  zcons (a := (1183, zi_al 0 1184)) (zs_al_n (M := 197) (pc := 1183) (zd_eq zk197 (by decide +kernel : decode cL_law 1183 = .ok (.aload_n 0, 1)))) <|
  zcons (a := (1184, zi_il 3 1185)) (zs_il_n (M := 197) (pc := 1184) (zd_eq zk197 (by decide +kernel : decode cL_law 1184 = .ok (.iload_n 3, 1)))) <|
  zcons (a := (1185, zi_k (.int 1) 1186)) (zs_iconst (M := 197) (pc := 1185) (zd_eq zk197 (by decide +kernel : decode cL_law 1185 = .ok (.iconst 1, 1))) (by decide)) <|
  zcons (a := (1186, zi_bin (· + ·) 1187)) (zs_iadd (M := 197) (pc := 1186) (zd_eq zk197 (by decide +kernel : decode cL_law 1186 = .ok (.iadd, 1)))) <|
  zcons (a := (1187, zi_sld 1188)) (zs_sld (M := 197) (pc := 1187) (zd_eq zk197 (by decide +kernel : decode cL_law 1187 = .ok (.iaload, 1)))) <| znil
set_option maxRecDepth 100000 in
theorem zS197_33 : ∀ q ∈ zm_c197_33, zm_Snd 197 q.1 q.2 :=
  zcons (a := (1188, zi_al 0 1189)) (zs_al_n (M := 197) (pc := 1188) (zd_eq zk197 (by decide +kernel : decode cL_law 1188 = .ok (.aload_n 0, 1)))) <|
  zcons (a := (1189, zi_il 3 1190)) (zs_il_n (M := 197) (pc := 1189) (zd_eq zk197 (by decide +kernel : decode cL_law 1189 = .ok (.iload_n 3, 1)))) <|
  zcons (a := (1190, zi_k (.int 2) 1191)) (zs_iconst (M := 197) (pc := 1190) (zd_eq zk197 (by decide +kernel : decode cL_law 1190 = .ok (.iconst 2, 1))) (by decide)) <|
  zcons (a := (1191, zi_bin (· + ·) 1192)) (zs_iadd (M := 197) (pc := 1191) (zd_eq zk197 (by decide +kernel : decode cL_law 1191 = .ok (.iadd, 1)))) <|
  zcons (a := (1192, zi_sld 1193)) (zs_sld (M := 197) (pc := 1192) (zd_eq zk197 (by decide +kernel : decode cL_law 1192 = .ok (.iaload, 1)))) <|
  zcons (a := (1193, zi_cv 95 2 6 1196 1)) (zs_cv (M := 197) (pc := 1193) (M' := 95) (k := 2) (kd := 1) (ci := 6) (q := (RX6, TX6, 14)) (zd_eq zk197 (by decide +kernel : decode cL_law 1193 = .ok (.invokevirtual 150, 3))) zWd95 (zl_m zo197 zy95 zw_714) (zl_i zy95 zw_715) (zl_e zy95 zw_716) (by decide) rfl (by rw [zo95])) <|
  zcons (a := (1196, zi_al 2 1197)) (zs_al_n (M := 197) (pc := 1196) (zd_eq zk197 (by decide +kernel : decode cL_law 1196 = .ok (.aload_n 2, 1)))) <|
  zcons (a := (1197, zi_al 0 1198)) (zs_al_n (M := 197) (pc := 1197) (zd_eq zk197 (by decide +kernel : decode cL_law 1197 = .ok (.aload_n 0, 1)))) <|
  zcons (a := (1198, zi_il 3 1199)) (zs_il_n (M := 197) (pc := 1198) (zd_eq zk197 (by decide +kernel : decode cL_law 1198 = .ok (.iload_n 3, 1)))) <|
  zcons (a := (1199, zi_k (.int 1) 1200)) (zs_iconst (M := 197) (pc := 1199) (zd_eq zk197 (by decide +kernel : decode cL_law 1199 = .ok (.iconst 1, 1))) (by decide)) <|
  zcons (a := (1200, zi_bin (· + ·) 1201)) (zs_iadd (M := 197) (pc := 1200) (zd_eq zk197 (by decide +kernel : decode cL_law 1200 = .ok (.iadd, 1)))) <|
  zcons (a := (1201, zi_sld 1202)) (zs_sld (M := 197) (pc := 1201) (zd_eq zk197 (by decide +kernel : decode cL_law 1201 = .ok (.iaload, 1)))) <|
  zcons (a := (1202, zi_al 0 1203)) (zs_al_n (M := 197) (pc := 1202) (zd_eq zk197 (by decide +kernel : decode cL_law 1202 = .ok (.aload_n 0, 1)))) <|
  zcons (a := (1203, zi_il 3 1204)) (zs_il_n (M := 197) (pc := 1203) (zd_eq zk197 (by decide +kernel : decode cL_law 1203 = .ok (.iload_n 3, 1)))) <|
  zcons (a := (1204, zi_k (.int 2) 1205)) (zs_iconst (M := 197) (pc := 1204) (zd_eq zk197 (by decide +kernel : decode cL_law 1204 = .ok (.iconst 2, 1))) (by decide)) <|
  zcons (a := (1205, zi_bin (· + ·) 1206)) (zs_iadd (M := 197) (pc := 1205) (zd_eq zk197 (by decide +kernel : decode cL_law 1205 = .ok (.iadd, 1)))) <|
  zcons (a := (1206, zi_sld 1207)) (zs_sld (M := 197) (pc := 1206) (zd_eq zk197 (by decide +kernel : decode cL_law 1206 = .ok (.iaload, 1)))) <|
  zcons (a := (1207, zi_cv 187 2 7 1210 1)) (zs_cv (M := 197) (pc := 1207) (M' := 187) (k := 2) (kd := 1) (ci := 7) (q := (RX7, TX7, 26)) (zd_eq zk197 (by decide +kernel : decode cL_law 1207 = .ok (.invokevirtual 153, 3))) zWd187 (zl_m zo197 zy187 zw_1144) (zl_i zy187 zw_1145) (zl_e zy187 zw_1146) (by decide) rfl (by rw [zo187])) <|
  zcons (a := (1210, zi_b2 (fun x y => x = y) 1512 1213)) (zs_icmpeq (M := 197) (pc := 1210) (zd_eq zk197 (by decide +kernel : decode cL_law 1210 = .ok (.if_icmp .eq 302, 3))) (by decide)) <|
  zcons (a := (1213, zi_k (.int 0) 1214)) (zs_iconst (M := 197) (pc := 1213) (zd_eq zk197 (by decide +kernel : decode cL_law 1213 = .ok (.iconst 0, 1))) (by decide)) <|
  zcons (a := (1214, zi_rz)) (zs_rz (M := 197) (pc := 1214) (zd_eq zk197 (by decide +kernel : decode cL_law 1214 = .ok (.ireturn, 1))) rfl) <|
  zcons (a := (1215, zi_al 1 1216)) (zs_al_n (M := 197) (pc := 1215) (zd_eq zk197 (by decide +kernel : decode cL_law 1215 = .ok (.aload_n 1, 1)))) <|
  zcons (a := (1216, zi_al 0 1217)) (zs_al_n (M := 197) (pc := 1216) (zd_eq zk197 (by decide +kernel : decode cL_law 1216 = .ok (.aload_n 0, 1)))) <|
  zcons (a := (1217, zi_il 3 1218)) (zs_il_n (M := 197) (pc := 1217) (zd_eq zk197 (by decide +kernel : decode cL_law 1217 = .ok (.iload_n 3, 1)))) <| znil
set_option maxRecDepth 100000 in
theorem zS197_34 : ∀ q ∈ zm_c197_34, zm_Snd 197 q.1 q.2 :=
  zcons (a := (1218, zi_k (.int 1) 1219)) (zs_iconst (M := 197) (pc := 1218) (zd_eq zk197 (by decide +kernel : decode cL_law 1218 = .ok (.iconst 1, 1))) (by decide)) <|
  zcons (a := (1219, zi_bin (· + ·) 1220)) (zs_iadd (M := 197) (pc := 1219) (zd_eq zk197 (by decide +kernel : decode cL_law 1219 = .ok (.iadd, 1)))) <|
  zcons (a := (1220, zi_sld 1221)) (zs_sld (M := 197) (pc := 1220) (zd_eq zk197 (by decide +kernel : decode cL_law 1220 = .ok (.iaload, 1)))) <|
  zcons (a := (1221, zi_al 0 1222)) (zs_al_n (M := 197) (pc := 1221) (zd_eq zk197 (by decide +kernel : decode cL_law 1221 = .ok (.aload_n 0, 1)))) <|
  zcons (a := (1222, zi_il 3 1223)) (zs_il_n (M := 197) (pc := 1222) (zd_eq zk197 (by decide +kernel : decode cL_law 1222 = .ok (.iload_n 3, 1)))) <|
  zcons (a := (1223, zi_k (.int 2) 1224)) (zs_iconst (M := 197) (pc := 1223) (zd_eq zk197 (by decide +kernel : decode cL_law 1223 = .ok (.iconst 2, 1))) (by decide)) <|
  zcons (a := (1224, zi_bin (· + ·) 1225)) (zs_iadd (M := 197) (pc := 1224) (zd_eq zk197 (by decide +kernel : decode cL_law 1224 = .ok (.iadd, 1)))) <|
  zcons (a := (1225, zi_sld 1226)) (zs_sld (M := 197) (pc := 1225) (zd_eq zk197 (by decide +kernel : decode cL_law 1225 = .ok (.iaload, 1)))) <|
  zcons (a := (1226, zi_cv 96 2 6 1229 1)) (zs_cv (M := 197) (pc := 1226) (M' := 96) (k := 2) (kd := 1) (ci := 6) (q := (RX6, TX6, 14)) (zd_eq zk197 (by decide +kernel : decode cL_law 1226 = .ok (.invokevirtual 154, 3))) zWd96 (zl_m zo197 zy96 zw_718) (zl_i zy96 zw_719) (zl_e zy96 zw_720) (by decide) rfl (by rw [zo96])) <|
  zcons (a := (1229, zi_al 2 1230)) (zs_al_n (M := 197) (pc := 1229) (zd_eq zk197 (by decide +kernel : decode cL_law 1229 = .ok (.aload_n 2, 1)))) <|
  zcons (a := (1230, zi_al 0 1231)) (zs_al_n (M := 197) (pc := 1230) (zd_eq zk197 (by decide +kernel : decode cL_law 1230 = .ok (.aload_n 0, 1)))) <|
  zcons (a := (1231, zi_il 3 1232)) (zs_il_n (M := 197) (pc := 1231) (zd_eq zk197 (by decide +kernel : decode cL_law 1231 = .ok (.iload_n 3, 1)))) <|
  zcons (a := (1232, zi_k (.int 1) 1233)) (zs_iconst (M := 197) (pc := 1232) (zd_eq zk197 (by decide +kernel : decode cL_law 1232 = .ok (.iconst 1, 1))) (by decide)) <|
  zcons (a := (1233, zi_bin (· + ·) 1234)) (zs_iadd (M := 197) (pc := 1233) (zd_eq zk197 (by decide +kernel : decode cL_law 1233 = .ok (.iadd, 1)))) <|
  zcons (a := (1234, zi_sld 1235)) (zs_sld (M := 197) (pc := 1234) (zd_eq zk197 (by decide +kernel : decode cL_law 1234 = .ok (.iaload, 1)))) <|
  zcons (a := (1235, zi_al 0 1236)) (zs_al_n (M := 197) (pc := 1235) (zd_eq zk197 (by decide +kernel : decode cL_law 1235 = .ok (.aload_n 0, 1)))) <|
  zcons (a := (1236, zi_il 3 1237)) (zs_il_n (M := 197) (pc := 1236) (zd_eq zk197 (by decide +kernel : decode cL_law 1236 = .ok (.iload_n 3, 1)))) <|
  zcons (a := (1237, zi_k (.int 2) 1238)) (zs_iconst (M := 197) (pc := 1237) (zd_eq zk197 (by decide +kernel : decode cL_law 1237 = .ok (.iconst 2, 1))) (by decide)) <|
  zcons (a := (1238, zi_bin (· + ·) 1239)) (zs_iadd (M := 197) (pc := 1238) (zd_eq zk197 (by decide +kernel : decode cL_law 1238 = .ok (.iadd, 1)))) <|
  zcons (a := (1239, zi_sld 1240)) (zs_sld (M := 197) (pc := 1239) (zd_eq zk197 (by decide +kernel : decode cL_law 1239 = .ok (.iaload, 1)))) <|
  zcons (a := (1240, zi_cv 188 2 7 1243 1)) (zs_cv (M := 197) (pc := 1240) (M' := 188) (k := 2) (kd := 1) (ci := 7) (q := (RX7, TX7, 26)) (zd_eq zk197 (by decide +kernel : decode cL_law 1240 = .ok (.invokevirtual 157, 3))) zWd188 (zl_m zo197 zy188 zw_1148) (zl_i zy188 zw_1149) (zl_e zy188 zw_1150) (by decide) rfl (by rw [zo188])) <|
  zcons (a := (1243, zi_b2 (fun x y => x = y) 1512 1246)) (zs_icmpeq (M := 197) (pc := 1243) (zd_eq zk197 (by decide +kernel : decode cL_law 1243 = .ok (.if_icmp .eq 269, 3))) (by decide)) <|
  zcons (a := (1246, zi_k (.int 0) 1247)) (zs_iconst (M := 197) (pc := 1246) (zd_eq zk197 (by decide +kernel : decode cL_law 1246 = .ok (.iconst 0, 1))) (by decide)) <|
  zcons (a := (1247, zi_rz)) (zs_rz (M := 197) (pc := 1247) (zd_eq zk197 (by decide +kernel : decode cL_law 1247 = .ok (.ireturn, 1))) rfl) <| znil
set_option maxRecDepth 100000 in
theorem zS197_35 : ∀ q ∈ zm_c197_35, zm_Snd 197 q.1 q.2 :=
  zcons (a := (1248, zi_al 1 1249)) (zs_al_n (M := 197) (pc := 1248) (zd_eq zk197 (by decide +kernel : decode cL_law 1248 = .ok (.aload_n 1, 1)))) <|
  zcons (a := (1249, zi_al 0 1250)) (zs_al_n (M := 197) (pc := 1249) (zd_eq zk197 (by decide +kernel : decode cL_law 1249 = .ok (.aload_n 0, 1)))) <|
  zcons (a := (1250, zi_il 3 1251)) (zs_il_n (M := 197) (pc := 1250) (zd_eq zk197 (by decide +kernel : decode cL_law 1250 = .ok (.iload_n 3, 1)))) <|
  zcons (a := (1251, zi_k (.int 1) 1252)) (zs_iconst (M := 197) (pc := 1251) (zd_eq zk197 (by decide +kernel : decode cL_law 1251 = .ok (.iconst 1, 1))) (by decide)) <|
  zcons (a := (1252, zi_bin (· + ·) 1253)) (zs_iadd (M := 197) (pc := 1252) (zd_eq zk197 (by decide +kernel : decode cL_law 1252 = .ok (.iadd, 1)))) <|
  zcons (a := (1253, zi_sld 1254)) (zs_sld (M := 197) (pc := 1253) (zd_eq zk197 (by decide +kernel : decode cL_law 1253 = .ok (.iaload, 1)))) <|
  zcons (a := (1254, zi_al 0 1255)) (zs_al_n (M := 197) (pc := 1254) (zd_eq zk197 (by decide +kernel : decode cL_law 1254 = .ok (.aload_n 0, 1)))) <|
  zcons (a := (1255, zi_il 3 1256)) (zs_il_n (M := 197) (pc := 1255) (zd_eq zk197 (by decide +kernel : decode cL_law 1255 = .ok (.iload_n 3, 1)))) <|
  zcons (a := (1256, zi_k (.int 2) 1257)) (zs_iconst (M := 197) (pc := 1256) (zd_eq zk197 (by decide +kernel : decode cL_law 1256 = .ok (.iconst 2, 1))) (by decide)) <|
  zcons (a := (1257, zi_bin (· + ·) 1258)) (zs_iadd (M := 197) (pc := 1257) (zd_eq zk197 (by decide +kernel : decode cL_law 1257 = .ok (.iadd, 1)))) <|
  zcons (a := (1258, zi_sld 1259)) (zs_sld (M := 197) (pc := 1258) (zd_eq zk197 (by decide +kernel : decode cL_law 1258 = .ok (.iaload, 1)))) <|
  zcons (a := (1259, zi_al 0 1260)) (zs_al_n (M := 197) (pc := 1259) (zd_eq zk197 (by decide +kernel : decode cL_law 1259 = .ok (.aload_n 0, 1)))) <|
  zcons (a := (1260, zi_il 3 1261)) (zs_il_n (M := 197) (pc := 1260) (zd_eq zk197 (by decide +kernel : decode cL_law 1260 = .ok (.iload_n 3, 1)))) <|
  zcons (a := (1261, zi_k (.int 3) 1262)) (zs_iconst (M := 197) (pc := 1261) (zd_eq zk197 (by decide +kernel : decode cL_law 1261 = .ok (.iconst 3, 1))) (by decide)) <|
  zcons (a := (1262, zi_bin (· + ·) 1263)) (zs_iadd (M := 197) (pc := 1262) (zd_eq zk197 (by decide +kernel : decode cL_law 1262 = .ok (.iadd, 1)))) <|
  zcons (a := (1263, zi_sld 1264)) (zs_sld (M := 197) (pc := 1263) (zd_eq zk197 (by decide +kernel : decode cL_law 1263 = .ok (.iaload, 1)))) <|
  zcons (a := (1264, zi_cv 97 3 6 1267 1)) (zs_cv (M := 197) (pc := 1264) (M' := 97) (k := 3) (kd := 1) (ci := 6) (q := (RX6, TX6, 14)) (zd_eq zk197 (by decide +kernel : decode cL_law 1264 = .ok (.invokevirtual 158, 3))) zWd97 (zl_m zo197 zy97 zw_736) (zl_i zy97 zw_737) (zl_e zy97 zw_738) (by decide) rfl (by rw [zo97])) <|
  zcons (a := (1267, zi_al 2 1268)) (zs_al_n (M := 197) (pc := 1267) (zd_eq zk197 (by decide +kernel : decode cL_law 1267 = .ok (.aload_n 2, 1)))) <|
  zcons (a := (1268, zi_al 0 1269)) (zs_al_n (M := 197) (pc := 1268) (zd_eq zk197 (by decide +kernel : decode cL_law 1268 = .ok (.aload_n 0, 1)))) <|
  zcons (a := (1269, zi_il 3 1270)) (zs_il_n (M := 197) (pc := 1269) (zd_eq zk197 (by decide +kernel : decode cL_law 1269 = .ok (.iload_n 3, 1)))) <|
  zcons (a := (1270, zi_k (.int 1) 1271)) (zs_iconst (M := 197) (pc := 1270) (zd_eq zk197 (by decide +kernel : decode cL_law 1270 = .ok (.iconst 1, 1))) (by decide)) <|
  zcons (a := (1271, zi_bin (· + ·) 1272)) (zs_iadd (M := 197) (pc := 1271) (zd_eq zk197 (by decide +kernel : decode cL_law 1271 = .ok (.iadd, 1)))) <|
  zcons (a := (1272, zi_sld 1273)) (zs_sld (M := 197) (pc := 1272) (zd_eq zk197 (by decide +kernel : decode cL_law 1272 = .ok (.iaload, 1)))) <|
  zcons (a := (1273, zi_al 0 1274)) (zs_al_n (M := 197) (pc := 1273) (zd_eq zk197 (by decide +kernel : decode cL_law 1273 = .ok (.aload_n 0, 1)))) <| znil
set_option maxRecDepth 100000 in
theorem zS197_36 : ∀ q ∈ zm_c197_36, zm_Snd 197 q.1 q.2 :=
  zcons (a := (1274, zi_il 3 1275)) (zs_il_n (M := 197) (pc := 1274) (zd_eq zk197 (by decide +kernel : decode cL_law 1274 = .ok (.iload_n 3, 1)))) <|
  zcons (a := (1275, zi_k (.int 2) 1276)) (zs_iconst (M := 197) (pc := 1275) (zd_eq zk197 (by decide +kernel : decode cL_law 1275 = .ok (.iconst 2, 1))) (by decide)) <|
  zcons (a := (1276, zi_bin (· + ·) 1277)) (zs_iadd (M := 197) (pc := 1276) (zd_eq zk197 (by decide +kernel : decode cL_law 1276 = .ok (.iadd, 1)))) <|
  zcons (a := (1277, zi_sld 1278)) (zs_sld (M := 197) (pc := 1277) (zd_eq zk197 (by decide +kernel : decode cL_law 1277 = .ok (.iaload, 1)))) <|
  zcons (a := (1278, zi_al 0 1279)) (zs_al_n (M := 197) (pc := 1278) (zd_eq zk197 (by decide +kernel : decode cL_law 1278 = .ok (.aload_n 0, 1)))) <|
  zcons (a := (1279, zi_il 3 1280)) (zs_il_n (M := 197) (pc := 1279) (zd_eq zk197 (by decide +kernel : decode cL_law 1279 = .ok (.iload_n 3, 1)))) <|
  zcons (a := (1280, zi_k (.int 3) 1281)) (zs_iconst (M := 197) (pc := 1280) (zd_eq zk197 (by decide +kernel : decode cL_law 1280 = .ok (.iconst 3, 1))) (by decide)) <|
  zcons (a := (1281, zi_bin (· + ·) 1282)) (zs_iadd (M := 197) (pc := 1281) (zd_eq zk197 (by decide +kernel : decode cL_law 1281 = .ok (.iadd, 1)))) <|
  zcons (a := (1282, zi_sld 1283)) (zs_sld (M := 197) (pc := 1282) (zd_eq zk197 (by decide +kernel : decode cL_law 1282 = .ok (.iaload, 1)))) <|
  zcons (a := (1283, zi_cv 189 3 7 1286 1)) (zs_cv (M := 197) (pc := 1283) (M' := 189) (k := 3) (kd := 1) (ci := 7) (q := (RX7, TX7, 26)) (zd_eq zk197 (by decide +kernel : decode cL_law 1283 = .ok (.invokevirtual 161, 3))) zWd189 (zl_m zo197 zy189 zw_1152) (zl_i zy189 zw_1153) (zl_e zy189 zw_1154) (by decide) rfl (by rw [zo189])) <|
  zcons (a := (1286, zi_b2 (fun x y => x = y) 1512 1289)) (zs_icmpeq (M := 197) (pc := 1286) (zd_eq zk197 (by decide +kernel : decode cL_law 1286 = .ok (.if_icmp .eq 226, 3))) (by decide)) <|
  zcons (a := (1289, zi_k (.int 0) 1290)) (zs_iconst (M := 197) (pc := 1289) (zd_eq zk197 (by decide +kernel : decode cL_law 1289 = .ok (.iconst 0, 1))) (by decide)) <|
  zcons (a := (1290, zi_rz)) (zs_rz (M := 197) (pc := 1290) (zd_eq zk197 (by decide +kernel : decode cL_law 1290 = .ok (.ireturn, 1))) rfl) <|
  zcons (a := (1291, zi_al 1 1292)) (zs_al_n (M := 197) (pc := 1291) (zd_eq zk197 (by decide +kernel : decode cL_law 1291 = .ok (.aload_n 1, 1)))) <|
  zcons (a := (1292, zi_al 0 1293)) (zs_al_n (M := 197) (pc := 1292) (zd_eq zk197 (by decide +kernel : decode cL_law 1292 = .ok (.aload_n 0, 1)))) <|
  zcons (a := (1293, zi_il 3 1294)) (zs_il_n (M := 197) (pc := 1293) (zd_eq zk197 (by decide +kernel : decode cL_law 1293 = .ok (.iload_n 3, 1)))) <|
  zcons (a := (1294, zi_k (.int 1) 1295)) (zs_iconst (M := 197) (pc := 1294) (zd_eq zk197 (by decide +kernel : decode cL_law 1294 = .ok (.iconst 1, 1))) (by decide)) <|
  zcons (a := (1295, zi_bin (· + ·) 1296)) (zs_iadd (M := 197) (pc := 1295) (zd_eq zk197 (by decide +kernel : decode cL_law 1295 = .ok (.iadd, 1)))) <|
  zcons (a := (1296, zi_sld 1297)) (zs_sld (M := 197) (pc := 1296) (zd_eq zk197 (by decide +kernel : decode cL_law 1296 = .ok (.iaload, 1)))) <|
  zcons (a := (1297, zi_cv 98 1 6 1300 1)) (zs_cv (M := 197) (pc := 1297) (M' := 98) (k := 1) (kd := 1) (ci := 6) (q := (RX6, TX6, 14)) (zd_eq zk197 (by decide +kernel : decode cL_law 1297 = .ok (.invokevirtual 162, 3))) zWd98 (zl_m zo197 zy98 zw_741) (zl_i zy98 zw_742) (zl_e zy98 zw_743) (by decide) rfl (by rw [zo98])) <|
  zcons (a := (1300, zi_al 2 1301)) (zs_al_n (M := 197) (pc := 1300) (zd_eq zk197 (by decide +kernel : decode cL_law 1300 = .ok (.aload_n 2, 1)))) <|
  zcons (a := (1301, zi_al 0 1302)) (zs_al_n (M := 197) (pc := 1301) (zd_eq zk197 (by decide +kernel : decode cL_law 1301 = .ok (.aload_n 0, 1)))) <|
  zcons (a := (1302, zi_il 3 1303)) (zs_il_n (M := 197) (pc := 1302) (zd_eq zk197 (by decide +kernel : decode cL_law 1302 = .ok (.iload_n 3, 1)))) <|
  zcons (a := (1303, zi_k (.int 1) 1304)) (zs_iconst (M := 197) (pc := 1303) (zd_eq zk197 (by decide +kernel : decode cL_law 1303 = .ok (.iconst 1, 1))) (by decide)) <| znil
set_option maxRecDepth 100000 in
theorem zS197_37 : ∀ q ∈ zm_c197_37, zm_Snd 197 q.1 q.2 :=
  zcons (a := (1304, zi_bin (· + ·) 1305)) (zs_iadd (M := 197) (pc := 1304) (zd_eq zk197 (by decide +kernel : decode cL_law 1304 = .ok (.iadd, 1)))) <|
  zcons (a := (1305, zi_sld 1306)) (zs_sld (M := 197) (pc := 1305) (zd_eq zk197 (by decide +kernel : decode cL_law 1305 = .ok (.iaload, 1)))) <|
  zcons (a := (1306, zi_cv 190 1 7 1309 1)) (zs_cv (M := 197) (pc := 1306) (M' := 190) (k := 1) (kd := 1) (ci := 7) (q := (RX7, TX7, 26)) (zd_eq zk197 (by decide +kernel : decode cL_law 1306 = .ok (.invokevirtual 165, 3))) zWd190 (zl_m zo197 zy190 zw_1157) (zl_i zy190 zw_1158) (zl_e zy190 zw_1159) (by decide) rfl (by rw [zo190])) <|
  zcons (a := (1309, zi_b2 (fun x y => x = y) 1512 1312)) (zs_icmpeq (M := 197) (pc := 1309) (zd_eq zk197 (by decide +kernel : decode cL_law 1309 = .ok (.if_icmp .eq 203, 3))) (by decide)) <|
  zcons (a := (1312, zi_k (.int 0) 1313)) (zs_iconst (M := 197) (pc := 1312) (zd_eq zk197 (by decide +kernel : decode cL_law 1312 = .ok (.iconst 0, 1))) (by decide)) <|
  zcons (a := (1313, zi_rz)) (zs_rz (M := 197) (pc := 1313) (zd_eq zk197 (by decide +kernel : decode cL_law 1313 = .ok (.ireturn, 1))) rfl) <|
  zcons (a := (1314, zi_al 1 1315)) (zs_al_n (M := 197) (pc := 1314) (zd_eq zk197 (by decide +kernel : decode cL_law 1314 = .ok (.aload_n 1, 1)))) <|
  zcons (a := (1315, zi_al 0 1316)) (zs_al_n (M := 197) (pc := 1315) (zd_eq zk197 (by decide +kernel : decode cL_law 1315 = .ok (.aload_n 0, 1)))) <|
  zcons (a := (1316, zi_il 3 1317)) (zs_il_n (M := 197) (pc := 1316) (zd_eq zk197 (by decide +kernel : decode cL_law 1316 = .ok (.iload_n 3, 1)))) <|
  zcons (a := (1317, zi_k (.int 1) 1318)) (zs_iconst (M := 197) (pc := 1317) (zd_eq zk197 (by decide +kernel : decode cL_law 1317 = .ok (.iconst 1, 1))) (by decide)) <|
  zcons (a := (1318, zi_bin (· + ·) 1319)) (zs_iadd (M := 197) (pc := 1318) (zd_eq zk197 (by decide +kernel : decode cL_law 1318 = .ok (.iadd, 1)))) <|
  zcons (a := (1319, zi_sld 1320)) (zs_sld (M := 197) (pc := 1319) (zd_eq zk197 (by decide +kernel : decode cL_law 1319 = .ok (.iaload, 1)))) <|
  zcons (a := (1320, zi_cv 99 1 6 1323 1)) (zs_cv (M := 197) (pc := 1320) (M' := 99) (k := 1) (kd := 1) (ci := 6) (q := (RX6, TX6, 14)) (zd_eq zk197 (by decide +kernel : decode cL_law 1320 = .ok (.invokevirtual 166, 3))) zWd99 (zl_m zo197 zy99 zw_745) (zl_i zy99 zw_746) (zl_e zy99 zw_747) (by decide) rfl (by rw [zo99])) <|
  zcons (a := (1323, zi_al 2 1324)) (zs_al_n (M := 197) (pc := 1323) (zd_eq zk197 (by decide +kernel : decode cL_law 1323 = .ok (.aload_n 2, 1)))) <|
  zcons (a := (1324, zi_al 0 1325)) (zs_al_n (M := 197) (pc := 1324) (zd_eq zk197 (by decide +kernel : decode cL_law 1324 = .ok (.aload_n 0, 1)))) <|
  zcons (a := (1325, zi_il 3 1326)) (zs_il_n (M := 197) (pc := 1325) (zd_eq zk197 (by decide +kernel : decode cL_law 1325 = .ok (.iload_n 3, 1)))) <|
  zcons (a := (1326, zi_k (.int 1) 1327)) (zs_iconst (M := 197) (pc := 1326) (zd_eq zk197 (by decide +kernel : decode cL_law 1326 = .ok (.iconst 1, 1))) (by decide)) <|
  zcons (a := (1327, zi_bin (· + ·) 1328)) (zs_iadd (M := 197) (pc := 1327) (zd_eq zk197 (by decide +kernel : decode cL_law 1327 = .ok (.iadd, 1)))) <|
  zcons (a := (1328, zi_sld 1329)) (zs_sld (M := 197) (pc := 1328) (zd_eq zk197 (by decide +kernel : decode cL_law 1328 = .ok (.iaload, 1)))) <|
  zcons (a := (1329, zi_cv 191 1 7 1332 1)) (zs_cv (M := 197) (pc := 1329) (M' := 191) (k := 1) (kd := 1) (ci := 7) (q := (RX7, TX7, 26)) (zd_eq zk197 (by decide +kernel : decode cL_law 1329 = .ok (.invokevirtual 169, 3))) zWd191 (zl_m zo197 zy191 zw_1161) (zl_i zy191 zw_1162) (zl_e zy191 zw_1163) (by decide) rfl (by rw [zo191])) <|
  zcons (a := (1332, zi_b2 (fun x y => x = y) 1512 1335)) (zs_icmpeq (M := 197) (pc := 1332) (zd_eq zk197 (by decide +kernel : decode cL_law 1332 = .ok (.if_icmp .eq 180, 3))) (by decide)) <|
  zcons (a := (1335, zi_k (.int 0) 1336)) (zs_iconst (M := 197) (pc := 1335) (zd_eq zk197 (by decide +kernel : decode cL_law 1335 = .ok (.iconst 0, 1))) (by decide)) <|
  zcons (a := (1336, zi_rz)) (zs_rz (M := 197) (pc := 1336) (zd_eq zk197 (by decide +kernel : decode cL_law 1336 = .ok (.ireturn, 1))) rfl) <|
  zcons (a := (1337, zi_al 1 1338)) (zs_al_n (M := 197) (pc := 1337) (zd_eq zk197 (by decide +kernel : decode cL_law 1337 = .ok (.aload_n 1, 1)))) <| znil
set_option maxRecDepth 100000 in
theorem zS197_38 : ∀ q ∈ zm_c197_38, zm_Snd 197 q.1 q.2 :=
  zcons (a := (1338, zi_al 0 1339)) (zs_al_n (M := 197) (pc := 1338) (zd_eq zk197 (by decide +kernel : decode cL_law 1338 = .ok (.aload_n 0, 1)))) <|
  zcons (a := (1339, zi_il 3 1340)) (zs_il_n (M := 197) (pc := 1339) (zd_eq zk197 (by decide +kernel : decode cL_law 1339 = .ok (.iload_n 3, 1)))) <|
  zcons (a := (1340, zi_k (.int 1) 1341)) (zs_iconst (M := 197) (pc := 1340) (zd_eq zk197 (by decide +kernel : decode cL_law 1340 = .ok (.iconst 1, 1))) (by decide)) <|
  zcons (a := (1341, zi_bin (· + ·) 1342)) (zs_iadd (M := 197) (pc := 1341) (zd_eq zk197 (by decide +kernel : decode cL_law 1341 = .ok (.iadd, 1)))) <|
  zcons (a := (1342, zi_sld 1343)) (zs_sld (M := 197) (pc := 1342) (zd_eq zk197 (by decide +kernel : decode cL_law 1342 = .ok (.iaload, 1)))) <|
  zcons (a := (1343, zi_al 0 1344)) (zs_al_n (M := 197) (pc := 1343) (zd_eq zk197 (by decide +kernel : decode cL_law 1343 = .ok (.aload_n 0, 1)))) <|
  zcons (a := (1344, zi_il 3 1345)) (zs_il_n (M := 197) (pc := 1344) (zd_eq zk197 (by decide +kernel : decode cL_law 1344 = .ok (.iload_n 3, 1)))) <|
  zcons (a := (1345, zi_k (.int 2) 1346)) (zs_iconst (M := 197) (pc := 1345) (zd_eq zk197 (by decide +kernel : decode cL_law 1345 = .ok (.iconst 2, 1))) (by decide)) <|
  zcons (a := (1346, zi_bin (· + ·) 1347)) (zs_iadd (M := 197) (pc := 1346) (zd_eq zk197 (by decide +kernel : decode cL_law 1346 = .ok (.iadd, 1)))) <|
  zcons (a := (1347, zi_sld 1348)) (zs_sld (M := 197) (pc := 1347) (zd_eq zk197 (by decide +kernel : decode cL_law 1347 = .ok (.iaload, 1)))) <|
  zcons (a := (1348, zi_al 0 1349)) (zs_al_n (M := 197) (pc := 1348) (zd_eq zk197 (by decide +kernel : decode cL_law 1348 = .ok (.aload_n 0, 1)))) <|
  zcons (a := (1349, zi_il 3 1350)) (zs_il_n (M := 197) (pc := 1349) (zd_eq zk197 (by decide +kernel : decode cL_law 1349 = .ok (.iload_n 3, 1)))) <|
  zcons (a := (1350, zi_k (.int 3) 1351)) (zs_iconst (M := 197) (pc := 1350) (zd_eq zk197 (by decide +kernel : decode cL_law 1350 = .ok (.iconst 3, 1))) (by decide)) <|
  zcons (a := (1351, zi_bin (· + ·) 1352)) (zs_iadd (M := 197) (pc := 1351) (zd_eq zk197 (by decide +kernel : decode cL_law 1351 = .ok (.iadd, 1)))) <|
  zcons (a := (1352, zi_sld 1353)) (zs_sld (M := 197) (pc := 1352) (zd_eq zk197 (by decide +kernel : decode cL_law 1352 = .ok (.iaload, 1)))) <|
  zcons (a := (1353, zi_cv 100 3 6 1356 1)) (zs_cv (M := 197) (pc := 1353) (M' := 100) (k := 3) (kd := 1) (ci := 6) (q := (RX6, TX6, 14)) (zd_eq zk197 (by decide +kernel : decode cL_law 1353 = .ok (.invokevirtual 170, 3))) zWd100 (zl_m zo197 zy100 zw_749) (zl_i zy100 zw_750) (zl_e zy100 zw_751) (by decide) rfl (by rw [zo100])) <|
  zcons (a := (1356, zi_al 2 1357)) (zs_al_n (M := 197) (pc := 1356) (zd_eq zk197 (by decide +kernel : decode cL_law 1356 = .ok (.aload_n 2, 1)))) <|
  zcons (a := (1357, zi_al 0 1358)) (zs_al_n (M := 197) (pc := 1357) (zd_eq zk197 (by decide +kernel : decode cL_law 1357 = .ok (.aload_n 0, 1)))) <|
  zcons (a := (1358, zi_il 3 1359)) (zs_il_n (M := 197) (pc := 1358) (zd_eq zk197 (by decide +kernel : decode cL_law 1358 = .ok (.iload_n 3, 1)))) <|
  zcons (a := (1359, zi_k (.int 1) 1360)) (zs_iconst (M := 197) (pc := 1359) (zd_eq zk197 (by decide +kernel : decode cL_law 1359 = .ok (.iconst 1, 1))) (by decide)) <|
  zcons (a := (1360, zi_bin (· + ·) 1361)) (zs_iadd (M := 197) (pc := 1360) (zd_eq zk197 (by decide +kernel : decode cL_law 1360 = .ok (.iadd, 1)))) <|
  zcons (a := (1361, zi_sld 1362)) (zs_sld (M := 197) (pc := 1361) (zd_eq zk197 (by decide +kernel : decode cL_law 1361 = .ok (.iaload, 1)))) <|
  zcons (a := (1362, zi_al 0 1363)) (zs_al_n (M := 197) (pc := 1362) (zd_eq zk197 (by decide +kernel : decode cL_law 1362 = .ok (.aload_n 0, 1)))) <|
  zcons (a := (1363, zi_il 3 1364)) (zs_il_n (M := 197) (pc := 1363) (zd_eq zk197 (by decide +kernel : decode cL_law 1363 = .ok (.iload_n 3, 1)))) <| znil
set_option maxRecDepth 100000 in
theorem zS197_39 : ∀ q ∈ zm_c197_39, zm_Snd 197 q.1 q.2 :=
  zcons (a := (1364, zi_k (.int 2) 1365)) (zs_iconst (M := 197) (pc := 1364) (zd_eq zk197 (by decide +kernel : decode cL_law 1364 = .ok (.iconst 2, 1))) (by decide)) <|
  zcons (a := (1365, zi_bin (· + ·) 1366)) (zs_iadd (M := 197) (pc := 1365) (zd_eq zk197 (by decide +kernel : decode cL_law 1365 = .ok (.iadd, 1)))) <|
  zcons (a := (1366, zi_sld 1367)) (zs_sld (M := 197) (pc := 1366) (zd_eq zk197 (by decide +kernel : decode cL_law 1366 = .ok (.iaload, 1)))) <|
  zcons (a := (1367, zi_al 0 1368)) (zs_al_n (M := 197) (pc := 1367) (zd_eq zk197 (by decide +kernel : decode cL_law 1367 = .ok (.aload_n 0, 1)))) <|
  zcons (a := (1368, zi_il 3 1369)) (zs_il_n (M := 197) (pc := 1368) (zd_eq zk197 (by decide +kernel : decode cL_law 1368 = .ok (.iload_n 3, 1)))) <|
  zcons (a := (1369, zi_k (.int 3) 1370)) (zs_iconst (M := 197) (pc := 1369) (zd_eq zk197 (by decide +kernel : decode cL_law 1369 = .ok (.iconst 3, 1))) (by decide)) <|
  zcons (a := (1370, zi_bin (· + ·) 1371)) (zs_iadd (M := 197) (pc := 1370) (zd_eq zk197 (by decide +kernel : decode cL_law 1370 = .ok (.iadd, 1)))) <|
  zcons (a := (1371, zi_sld 1372)) (zs_sld (M := 197) (pc := 1371) (zd_eq zk197 (by decide +kernel : decode cL_law 1371 = .ok (.iaload, 1)))) <|
  zcons (a := (1372, zi_cv 192 3 7 1375 1)) (zs_cv (M := 197) (pc := 1372) (M' := 192) (k := 3) (kd := 1) (ci := 7) (q := (RX7, TX7, 26)) (zd_eq zk197 (by decide +kernel : decode cL_law 1372 = .ok (.invokevirtual 173, 3))) zWd192 (zl_m zo197 zy192 zw_1165) (zl_i zy192 zw_1166) (zl_e zy192 zw_1167) (by decide) rfl (by rw [zo192])) <|
  zcons (a := (1375, zi_b2 (fun x y => x = y) 1512 1378)) (zs_icmpeq (M := 197) (pc := 1375) (zd_eq zk197 (by decide +kernel : decode cL_law 1375 = .ok (.if_icmp .eq 137, 3))) (by decide)) <|
  zcons (a := (1378, zi_k (.int 0) 1379)) (zs_iconst (M := 197) (pc := 1378) (zd_eq zk197 (by decide +kernel : decode cL_law 1378 = .ok (.iconst 0, 1))) (by decide)) <|
  zcons (a := (1379, zi_rz)) (zs_rz (M := 197) (pc := 1379) (zd_eq zk197 (by decide +kernel : decode cL_law 1379 = .ok (.ireturn, 1))) rfl) <|
  zcons (a := (1380, zi_al 1 1381)) (zs_al_n (M := 197) (pc := 1380) (zd_eq zk197 (by decide +kernel : decode cL_law 1380 = .ok (.aload_n 1, 1)))) <|
  zcons (a := (1381, zi_al 0 1382)) (zs_al_n (M := 197) (pc := 1381) (zd_eq zk197 (by decide +kernel : decode cL_law 1381 = .ok (.aload_n 0, 1)))) <|
  zcons (a := (1382, zi_il 3 1383)) (zs_il_n (M := 197) (pc := 1382) (zd_eq zk197 (by decide +kernel : decode cL_law 1382 = .ok (.iload_n 3, 1)))) <|
  zcons (a := (1383, zi_k (.int 1) 1384)) (zs_iconst (M := 197) (pc := 1383) (zd_eq zk197 (by decide +kernel : decode cL_law 1383 = .ok (.iconst 1, 1))) (by decide)) <|
  zcons (a := (1384, zi_bin (· + ·) 1385)) (zs_iadd (M := 197) (pc := 1384) (zd_eq zk197 (by decide +kernel : decode cL_law 1384 = .ok (.iadd, 1)))) <|
  zcons (a := (1385, zi_sld 1386)) (zs_sld (M := 197) (pc := 1385) (zd_eq zk197 (by decide +kernel : decode cL_law 1385 = .ok (.iaload, 1)))) <|
  zcons (a := (1386, zi_al 0 1387)) (zs_al_n (M := 197) (pc := 1386) (zd_eq zk197 (by decide +kernel : decode cL_law 1386 = .ok (.aload_n 0, 1)))) <|
  zcons (a := (1387, zi_il 3 1388)) (zs_il_n (M := 197) (pc := 1387) (zd_eq zk197 (by decide +kernel : decode cL_law 1387 = .ok (.iload_n 3, 1)))) <|
  zcons (a := (1388, zi_k (.int 2) 1389)) (zs_iconst (M := 197) (pc := 1388) (zd_eq zk197 (by decide +kernel : decode cL_law 1388 = .ok (.iconst 2, 1))) (by decide)) <|
  zcons (a := (1389, zi_bin (· + ·) 1390)) (zs_iadd (M := 197) (pc := 1389) (zd_eq zk197 (by decide +kernel : decode cL_law 1389 = .ok (.iadd, 1)))) <|
  zcons (a := (1390, zi_sld 1391)) (zs_sld (M := 197) (pc := 1390) (zd_eq zk197 (by decide +kernel : decode cL_law 1390 = .ok (.iaload, 1)))) <|
  zcons (a := (1391, zi_al 0 1392)) (zs_al_n (M := 197) (pc := 1391) (zd_eq zk197 (by decide +kernel : decode cL_law 1391 = .ok (.aload_n 0, 1)))) <| znil
set_option maxRecDepth 100000 in
theorem zS197_40 : ∀ q ∈ zm_c197_40, zm_Snd 197 q.1 q.2 :=
  zcons (a := (1392, zi_il 3 1393)) (zs_il_n (M := 197) (pc := 1392) (zd_eq zk197 (by decide +kernel : decode cL_law 1392 = .ok (.iload_n 3, 1)))) <|
  zcons (a := (1393, zi_k (.int 3) 1394)) (zs_iconst (M := 197) (pc := 1393) (zd_eq zk197 (by decide +kernel : decode cL_law 1393 = .ok (.iconst 3, 1))) (by decide)) <|
  zcons (a := (1394, zi_bin (· + ·) 1395)) (zs_iadd (M := 197) (pc := 1394) (zd_eq zk197 (by decide +kernel : decode cL_law 1394 = .ok (.iadd, 1)))) <|
  zcons (a := (1395, zi_sld 1396)) (zs_sld (M := 197) (pc := 1395) (zd_eq zk197 (by decide +kernel : decode cL_law 1395 = .ok (.iaload, 1)))) <|
  zcons (a := (1396, zi_cv 101 3 6 1399 1)) (zs_cv (M := 197) (pc := 1396) (M' := 101) (k := 3) (kd := 1) (ci := 6) (q := (RX6, TX6, 14)) (zd_eq zk197 (by decide +kernel : decode cL_law 1396 = .ok (.invokevirtual 174, 3))) zWd101 (zl_m zo197 zy101 zw_758) (zl_i zy101 zw_759) (zl_e zy101 zw_760) (by decide) rfl (by rw [zo101])) <|
  zcons (a := (1399, zi_al 2 1400)) (zs_al_n (M := 197) (pc := 1399) (zd_eq zk197 (by decide +kernel : decode cL_law 1399 = .ok (.aload_n 2, 1)))) <|
  zcons (a := (1400, zi_al 0 1401)) (zs_al_n (M := 197) (pc := 1400) (zd_eq zk197 (by decide +kernel : decode cL_law 1400 = .ok (.aload_n 0, 1)))) <|
  zcons (a := (1401, zi_il 3 1402)) (zs_il_n (M := 197) (pc := 1401) (zd_eq zk197 (by decide +kernel : decode cL_law 1401 = .ok (.iload_n 3, 1)))) <|
  zcons (a := (1402, zi_k (.int 1) 1403)) (zs_iconst (M := 197) (pc := 1402) (zd_eq zk197 (by decide +kernel : decode cL_law 1402 = .ok (.iconst 1, 1))) (by decide)) <|
  zcons (a := (1403, zi_bin (· + ·) 1404)) (zs_iadd (M := 197) (pc := 1403) (zd_eq zk197 (by decide +kernel : decode cL_law 1403 = .ok (.iadd, 1)))) <|
  zcons (a := (1404, zi_sld 1405)) (zs_sld (M := 197) (pc := 1404) (zd_eq zk197 (by decide +kernel : decode cL_law 1404 = .ok (.iaload, 1)))) <|
  zcons (a := (1405, zi_al 0 1406)) (zs_al_n (M := 197) (pc := 1405) (zd_eq zk197 (by decide +kernel : decode cL_law 1405 = .ok (.aload_n 0, 1)))) <|
  zcons (a := (1406, zi_il 3 1407)) (zs_il_n (M := 197) (pc := 1406) (zd_eq zk197 (by decide +kernel : decode cL_law 1406 = .ok (.iload_n 3, 1)))) <|
  zcons (a := (1407, zi_k (.int 2) 1408)) (zs_iconst (M := 197) (pc := 1407) (zd_eq zk197 (by decide +kernel : decode cL_law 1407 = .ok (.iconst 2, 1))) (by decide)) <|
  zcons (a := (1408, zi_bin (· + ·) 1409)) (zs_iadd (M := 197) (pc := 1408) (zd_eq zk197 (by decide +kernel : decode cL_law 1408 = .ok (.iadd, 1)))) <|
  zcons (a := (1409, zi_sld 1410)) (zs_sld (M := 197) (pc := 1409) (zd_eq zk197 (by decide +kernel : decode cL_law 1409 = .ok (.iaload, 1)))) <|
  zcons (a := (1410, zi_al 0 1411)) (zs_al_n (M := 197) (pc := 1410) (zd_eq zk197 (by decide +kernel : decode cL_law 1410 = .ok (.aload_n 0, 1)))) <|
  zcons (a := (1411, zi_il 3 1412)) (zs_il_n (M := 197) (pc := 1411) (zd_eq zk197 (by decide +kernel : decode cL_law 1411 = .ok (.iload_n 3, 1)))) <|
  zcons (a := (1412, zi_k (.int 3) 1413)) (zs_iconst (M := 197) (pc := 1412) (zd_eq zk197 (by decide +kernel : decode cL_law 1412 = .ok (.iconst 3, 1))) (by decide)) <|
  zcons (a := (1413, zi_bin (· + ·) 1414)) (zs_iadd (M := 197) (pc := 1413) (zd_eq zk197 (by decide +kernel : decode cL_law 1413 = .ok (.iadd, 1)))) <|
  zcons (a := (1414, zi_sld 1415)) (zs_sld (M := 197) (pc := 1414) (zd_eq zk197 (by decide +kernel : decode cL_law 1414 = .ok (.iaload, 1)))) <|
  zcons (a := (1415, zi_cv 193 3 7 1418 1)) (zs_cv (M := 197) (pc := 1415) (M' := 193) (k := 3) (kd := 1) (ci := 7) (q := (RX7, TX7, 26)) (zd_eq zk197 (by decide +kernel : decode cL_law 1415 = .ok (.invokevirtual 177, 3))) zWd193 (zl_m zo197 zy193 zw_1169) (zl_i zy193 zw_1170) (zl_e zy193 zw_1171) (by decide) rfl (by rw [zo193])) <|
  zcons (a := (1418, zi_b2 (fun x y => x = y) 1512 1421)) (zs_icmpeq (M := 197) (pc := 1418) (zd_eq zk197 (by decide +kernel : decode cL_law 1418 = .ok (.if_icmp .eq 94, 3))) (by decide)) <|
  zcons (a := (1421, zi_k (.int 0) 1422)) (zs_iconst (M := 197) (pc := 1421) (zd_eq zk197 (by decide +kernel : decode cL_law 1421 = .ok (.iconst 0, 1))) (by decide)) <| znil
set_option maxRecDepth 100000 in
theorem zS197_41 : ∀ q ∈ zm_c197_41, zm_Snd 197 q.1 q.2 :=
  zcons (a := (1422, zi_rz)) (zs_rz (M := 197) (pc := 1422) (zd_eq zk197 (by decide +kernel : decode cL_law 1422 = .ok (.ireturn, 1))) rfl) <|
  zcons (a := (1423, zi_al 1 1424)) (zs_al_n (M := 197) (pc := 1423) (zd_eq zk197 (by decide +kernel : decode cL_law 1423 = .ok (.aload_n 1, 1)))) <|
  zcons (a := (1424, zi_al 0 1425)) (zs_al_n (M := 197) (pc := 1424) (zd_eq zk197 (by decide +kernel : decode cL_law 1424 = .ok (.aload_n 0, 1)))) <|
  zcons (a := (1425, zi_il 3 1426)) (zs_il_n (M := 197) (pc := 1425) (zd_eq zk197 (by decide +kernel : decode cL_law 1425 = .ok (.iload_n 3, 1)))) <|
  zcons (a := (1426, zi_k (.int 1) 1427)) (zs_iconst (M := 197) (pc := 1426) (zd_eq zk197 (by decide +kernel : decode cL_law 1426 = .ok (.iconst 1, 1))) (by decide)) <|
  zcons (a := (1427, zi_bin (· + ·) 1428)) (zs_iadd (M := 197) (pc := 1427) (zd_eq zk197 (by decide +kernel : decode cL_law 1427 = .ok (.iadd, 1)))) <|
  zcons (a := (1428, zi_sld 1429)) (zs_sld (M := 197) (pc := 1428) (zd_eq zk197 (by decide +kernel : decode cL_law 1428 = .ok (.iaload, 1)))) <|
  zcons (a := (1429, zi_al 0 1430)) (zs_al_n (M := 197) (pc := 1429) (zd_eq zk197 (by decide +kernel : decode cL_law 1429 = .ok (.aload_n 0, 1)))) <|
  zcons (a := (1430, zi_il 3 1431)) (zs_il_n (M := 197) (pc := 1430) (zd_eq zk197 (by decide +kernel : decode cL_law 1430 = .ok (.iload_n 3, 1)))) <|
  zcons (a := (1431, zi_k (.int 2) 1432)) (zs_iconst (M := 197) (pc := 1431) (zd_eq zk197 (by decide +kernel : decode cL_law 1431 = .ok (.iconst 2, 1))) (by decide)) <|
  zcons (a := (1432, zi_bin (· + ·) 1433)) (zs_iadd (M := 197) (pc := 1432) (zd_eq zk197 (by decide +kernel : decode cL_law 1432 = .ok (.iadd, 1)))) <|
  zcons (a := (1433, zi_sld 1434)) (zs_sld (M := 197) (pc := 1433) (zd_eq zk197 (by decide +kernel : decode cL_law 1433 = .ok (.iaload, 1)))) <|
  zcons (a := (1434, zi_al 0 1435)) (zs_al_n (M := 197) (pc := 1434) (zd_eq zk197 (by decide +kernel : decode cL_law 1434 = .ok (.aload_n 0, 1)))) <|
  zcons (a := (1435, zi_il 3 1436)) (zs_il_n (M := 197) (pc := 1435) (zd_eq zk197 (by decide +kernel : decode cL_law 1435 = .ok (.iload_n 3, 1)))) <|
  zcons (a := (1436, zi_k (.int 3) 1437)) (zs_iconst (M := 197) (pc := 1436) (zd_eq zk197 (by decide +kernel : decode cL_law 1436 = .ok (.iconst 3, 1))) (by decide)) <|
  zcons (a := (1437, zi_bin (· + ·) 1438)) (zs_iadd (M := 197) (pc := 1437) (zd_eq zk197 (by decide +kernel : decode cL_law 1437 = .ok (.iadd, 1)))) <|
  zcons (a := (1438, zi_sld 1439)) (zs_sld (M := 197) (pc := 1438) (zd_eq zk197 (by decide +kernel : decode cL_law 1438 = .ok (.iaload, 1)))) <|
  zcons (a := (1439, zi_al 0 1440)) (zs_al_n (M := 197) (pc := 1439) (zd_eq zk197 (by decide +kernel : decode cL_law 1439 = .ok (.aload_n 0, 1)))) <|
  zcons (a := (1440, zi_il 3 1441)) (zs_il_n (M := 197) (pc := 1440) (zd_eq zk197 (by decide +kernel : decode cL_law 1440 = .ok (.iload_n 3, 1)))) <|
  zcons (a := (1441, zi_k (.int 4) 1442)) (zs_iconst (M := 197) (pc := 1441) (zd_eq zk197 (by decide +kernel : decode cL_law 1441 = .ok (.iconst 4, 1))) (by decide)) <|
  zcons (a := (1442, zi_bin (· + ·) 1443)) (zs_iadd (M := 197) (pc := 1442) (zd_eq zk197 (by decide +kernel : decode cL_law 1442 = .ok (.iadd, 1)))) <|
  zcons (a := (1443, zi_sld 1444)) (zs_sld (M := 197) (pc := 1443) (zd_eq zk197 (by decide +kernel : decode cL_law 1443 = .ok (.iaload, 1)))) <|
  zcons (a := (1444, zi_cv 102 4 6 1447 1)) (zs_cv (M := 197) (pc := 1444) (M' := 102) (k := 4) (kd := 1) (ci := 6) (q := (RX6, TX6, 14)) (zd_eq zk197 (by decide +kernel : decode cL_law 1444 = .ok (.invokevirtual 178, 3))) zWd102 (zl_m zo197 zy102 zw_770) (zl_i zy102 zw_771) (zl_e zy102 zw_772) (by decide) rfl (by rw [zo102])) <|
  zcons (a := (1447, zi_al 2 1448)) (zs_al_n (M := 197) (pc := 1447) (zd_eq zk197 (by decide +kernel : decode cL_law 1447 = .ok (.aload_n 2, 1)))) <| znil
set_option maxRecDepth 100000 in
theorem zS197_42 : ∀ q ∈ zm_c197_42, zm_Snd 197 q.1 q.2 :=
  zcons (a := (1448, zi_al 0 1449)) (zs_al_n (M := 197) (pc := 1448) (zd_eq zk197 (by decide +kernel : decode cL_law 1448 = .ok (.aload_n 0, 1)))) <|
  zcons (a := (1449, zi_il 3 1450)) (zs_il_n (M := 197) (pc := 1449) (zd_eq zk197 (by decide +kernel : decode cL_law 1449 = .ok (.iload_n 3, 1)))) <|
  zcons (a := (1450, zi_k (.int 1) 1451)) (zs_iconst (M := 197) (pc := 1450) (zd_eq zk197 (by decide +kernel : decode cL_law 1450 = .ok (.iconst 1, 1))) (by decide)) <|
  zcons (a := (1451, zi_bin (· + ·) 1452)) (zs_iadd (M := 197) (pc := 1451) (zd_eq zk197 (by decide +kernel : decode cL_law 1451 = .ok (.iadd, 1)))) <|
  zcons (a := (1452, zi_sld 1453)) (zs_sld (M := 197) (pc := 1452) (zd_eq zk197 (by decide +kernel : decode cL_law 1452 = .ok (.iaload, 1)))) <|
  zcons (a := (1453, zi_al 0 1454)) (zs_al_n (M := 197) (pc := 1453) (zd_eq zk197 (by decide +kernel : decode cL_law 1453 = .ok (.aload_n 0, 1)))) <|
  zcons (a := (1454, zi_il 3 1455)) (zs_il_n (M := 197) (pc := 1454) (zd_eq zk197 (by decide +kernel : decode cL_law 1454 = .ok (.iload_n 3, 1)))) <|
  zcons (a := (1455, zi_k (.int 2) 1456)) (zs_iconst (M := 197) (pc := 1455) (zd_eq zk197 (by decide +kernel : decode cL_law 1455 = .ok (.iconst 2, 1))) (by decide)) <|
  zcons (a := (1456, zi_bin (· + ·) 1457)) (zs_iadd (M := 197) (pc := 1456) (zd_eq zk197 (by decide +kernel : decode cL_law 1456 = .ok (.iadd, 1)))) <|
  zcons (a := (1457, zi_sld 1458)) (zs_sld (M := 197) (pc := 1457) (zd_eq zk197 (by decide +kernel : decode cL_law 1457 = .ok (.iaload, 1)))) <|
  zcons (a := (1458, zi_al 0 1459)) (zs_al_n (M := 197) (pc := 1458) (zd_eq zk197 (by decide +kernel : decode cL_law 1458 = .ok (.aload_n 0, 1)))) <|
  zcons (a := (1459, zi_il 3 1460)) (zs_il_n (M := 197) (pc := 1459) (zd_eq zk197 (by decide +kernel : decode cL_law 1459 = .ok (.iload_n 3, 1)))) <|
  zcons (a := (1460, zi_k (.int 3) 1461)) (zs_iconst (M := 197) (pc := 1460) (zd_eq zk197 (by decide +kernel : decode cL_law 1460 = .ok (.iconst 3, 1))) (by decide)) <|
  zcons (a := (1461, zi_bin (· + ·) 1462)) (zs_iadd (M := 197) (pc := 1461) (zd_eq zk197 (by decide +kernel : decode cL_law 1461 = .ok (.iadd, 1)))) <|
  zcons (a := (1462, zi_sld 1463)) (zs_sld (M := 197) (pc := 1462) (zd_eq zk197 (by decide +kernel : decode cL_law 1462 = .ok (.iaload, 1)))) <|
  zcons (a := (1463, zi_al 0 1464)) (zs_al_n (M := 197) (pc := 1463) (zd_eq zk197 (by decide +kernel : decode cL_law 1463 = .ok (.aload_n 0, 1)))) <|
  zcons (a := (1464, zi_il 3 1465)) (zs_il_n (M := 197) (pc := 1464) (zd_eq zk197 (by decide +kernel : decode cL_law 1464 = .ok (.iload_n 3, 1)))) <|
  zcons (a := (1465, zi_k (.int 4) 1466)) (zs_iconst (M := 197) (pc := 1465) (zd_eq zk197 (by decide +kernel : decode cL_law 1465 = .ok (.iconst 4, 1))) (by decide)) <|
  zcons (a := (1466, zi_bin (· + ·) 1467)) (zs_iadd (M := 197) (pc := 1466) (zd_eq zk197 (by decide +kernel : decode cL_law 1466 = .ok (.iadd, 1)))) <|
  zcons (a := (1467, zi_sld 1468)) (zs_sld (M := 197) (pc := 1467) (zd_eq zk197 (by decide +kernel : decode cL_law 1467 = .ok (.iaload, 1)))) <|
  zcons (a := (1468, zi_cv 194 4 7 1471 1)) (zs_cv (M := 197) (pc := 1468) (M' := 194) (k := 4) (kd := 1) (ci := 7) (q := (RX7, TX7, 26)) (zd_eq zk197 (by decide +kernel : decode cL_law 1468 = .ok (.invokevirtual 182, 3))) zWd194 (zl_m zo197 zy194 zw_1173) (zl_i zy194 zw_1174) (zl_e zy194 zw_1175) (by decide) rfl (by rw [zo194])) <|
  zcons (a := (1471, zi_b2 (fun x y => x = y) 1512 1474)) (zs_icmpeq (M := 197) (pc := 1471) (zd_eq zk197 (by decide +kernel : decode cL_law 1471 = .ok (.if_icmp .eq 41, 3))) (by decide)) <|
  zcons (a := (1474, zi_k (.int 0) 1475)) (zs_iconst (M := 197) (pc := 1474) (zd_eq zk197 (by decide +kernel : decode cL_law 1474 = .ok (.iconst 0, 1))) (by decide)) <|
  zcons (a := (1475, zi_rz)) (zs_rz (M := 197) (pc := 1475) (zd_eq zk197 (by decide +kernel : decode cL_law 1475 = .ok (.ireturn, 1))) rfl) <| znil
set_option maxRecDepth 100000 in
theorem zS197_43 : ∀ q ∈ zm_c197_43, zm_Snd 197 q.1 q.2 :=
  zcons (a := (1476, zi_al 1 1477)) (zs_al_n (M := 197) (pc := 1476) (zd_eq zk197 (by decide +kernel : decode cL_law 1476 = .ok (.aload_n 1, 1)))) <|
  zcons (a := (1477, zi_cv 103 0 6 1480 1)) (zs_cv (M := 197) (pc := 1477) (M' := 103) (k := 0) (kd := 1) (ci := 6) (q := (RX6, TX6, 14)) (zd_eq zk197 (by decide +kernel : decode cL_law 1477 = .ok (.invokevirtual 183, 3))) zWd103 (zl_m zo197 zy103 zw_779) (zl_i zy103 zw_780) (zl_e zy103 zw_781) (by decide) rfl (by rw [zo103])) <|
  zcons (a := (1480, zi_al 2 1481)) (zs_al_n (M := 197) (pc := 1480) (zd_eq zk197 (by decide +kernel : decode cL_law 1480 = .ok (.aload_n 2, 1)))) <|
  zcons (a := (1481, zi_cv 195 0 7 1484 1)) (zs_cv (M := 197) (pc := 1481) (M' := 195) (k := 0) (kd := 1) (ci := 7) (q := (RX7, TX7, 26)) (zd_eq zk197 (by decide +kernel : decode cL_law 1481 = .ok (.invokevirtual 186, 3))) zWd195 (zl_m zo197 zy195 zw_1178) (zl_i zy195 zw_1179) (zl_e zy195 zw_1180) (by decide) rfl (by rw [zo195])) <|
  zcons (a := (1484, zi_b2 (fun x y => x = y) 1512 1487)) (zs_icmpeq (M := 197) (pc := 1484) (zd_eq zk197 (by decide +kernel : decode cL_law 1484 = .ok (.if_icmp .eq 28, 3))) (by decide)) <|
  zcons (a := (1487, zi_k (.int 0) 1488)) (zs_iconst (M := 197) (pc := 1487) (zd_eq zk197 (by decide +kernel : decode cL_law 1487 = .ok (.iconst 0, 1))) (by decide)) <|
  zcons (a := (1488, zi_rz)) (zs_rz (M := 197) (pc := 1488) (zd_eq zk197 (by decide +kernel : decode cL_law 1488 = .ok (.ireturn, 1))) rfl) <|
  zcons (a := (1489, zi_al 1 1490)) (zs_al_n (M := 197) (pc := 1489) (zd_eq zk197 (by decide +kernel : decode cL_law 1489 = .ok (.aload_n 1, 1)))) <|
  zcons (a := (1490, zi_al 0 1491)) (zs_al_n (M := 197) (pc := 1490) (zd_eq zk197 (by decide +kernel : decode cL_law 1490 = .ok (.aload_n 0, 1)))) <|
  zcons (a := (1491, zi_il 3 1492)) (zs_il_n (M := 197) (pc := 1491) (zd_eq zk197 (by decide +kernel : decode cL_law 1491 = .ok (.iload_n 3, 1)))) <|
  zcons (a := (1492, zi_k (.int 1) 1493)) (zs_iconst (M := 197) (pc := 1492) (zd_eq zk197 (by decide +kernel : decode cL_law 1492 = .ok (.iconst 1, 1))) (by decide)) <|
  zcons (a := (1493, zi_bin (· + ·) 1494)) (zs_iadd (M := 197) (pc := 1493) (zd_eq zk197 (by decide +kernel : decode cL_law 1493 = .ok (.iadd, 1)))) <|
  zcons (a := (1494, zi_sld 1495)) (zs_sld (M := 197) (pc := 1494) (zd_eq zk197 (by decide +kernel : decode cL_law 1494 = .ok (.iaload, 1)))) <|
  zcons (a := (1495, zi_cv 104 1 6 1498 1)) (zs_cv (M := 197) (pc := 1495) (M' := 104) (k := 1) (kd := 1) (ci := 6) (q := (RX6, TX6, 14)) (zd_eq zk197 (by decide +kernel : decode cL_law 1495 = .ok (.invokevirtual 187, 3))) zWd104 (zl_m zo197 zy104 zw_783) (zl_i zy104 zw_784) (zl_e zy104 zw_785) (by decide) rfl (by rw [zo104])) <|
  zcons (a := (1498, zi_al 2 1499)) (zs_al_n (M := 197) (pc := 1498) (zd_eq zk197 (by decide +kernel : decode cL_law 1498 = .ok (.aload_n 2, 1)))) <|
  zcons (a := (1499, zi_al 0 1500)) (zs_al_n (M := 197) (pc := 1499) (zd_eq zk197 (by decide +kernel : decode cL_law 1499 = .ok (.aload_n 0, 1)))) <|
  zcons (a := (1500, zi_il 3 1501)) (zs_il_n (M := 197) (pc := 1500) (zd_eq zk197 (by decide +kernel : decode cL_law 1500 = .ok (.iload_n 3, 1)))) <|
  zcons (a := (1501, zi_k (.int 1) 1502)) (zs_iconst (M := 197) (pc := 1501) (zd_eq zk197 (by decide +kernel : decode cL_law 1501 = .ok (.iconst 1, 1))) (by decide)) <|
  zcons (a := (1502, zi_bin (· + ·) 1503)) (zs_iadd (M := 197) (pc := 1502) (zd_eq zk197 (by decide +kernel : decode cL_law 1502 = .ok (.iadd, 1)))) <|
  zcons (a := (1503, zi_sld 1504)) (zs_sld (M := 197) (pc := 1503) (zd_eq zk197 (by decide +kernel : decode cL_law 1503 = .ok (.iaload, 1)))) <|
  zcons (a := (1504, zi_cv 196 1 7 1507 1)) (zs_cv (M := 197) (pc := 1504) (M' := 196) (k := 1) (kd := 1) (ci := 7) (q := (RX7, TX7, 26)) (zd_eq zk197 (by decide +kernel : decode cL_law 1504 = .ok (.invokevirtual 190, 3))) zWd196 (zl_m zo197 zy196 zw_1182) (zl_i zy196 zw_1183) (zl_e zy196 zw_1184) (by decide) rfl (by rw [zo196])) <|
  zcons (a := (1507, zi_b2 (fun x y => x = y) 1512 1510)) (zs_icmpeq (M := 197) (pc := 1507) (zd_eq zk197 (by decide +kernel : decode cL_law 1507 = .ok (.if_icmp .eq 5, 3))) (by decide)) <|
  zcons (a := (1510, zi_k (.int 0) 1511)) (zs_iconst (M := 197) (pc := 1510) (zd_eq zk197 (by decide +kernel : decode cL_law 1510 = .ok (.iconst 0, 1))) (by decide)) <|
  zcons (a := (1511, zi_rz)) (zs_rz (M := 197) (pc := 1511) (zd_eq zk197 (by decide +kernel : decode cL_law 1511 = .ok (.ireturn, 1))) rfl) <| znil
set_option maxRecDepth 100000 in
theorem zS197_44 : ∀ q ∈ zm_c197_44, zm_Snd 197 q.1 q.2 :=
  zcons (a := (1512, zi_inc 3 5 1515)) (zs_inc (M := 197) (pc := 1512) (zd_eq zk197 (by decide +kernel : decode cL_law 1512 = .ok (.iinc 3 5, 3))) (by decide) (by decide +kernel) (by decide +kernel)) <|
  zcons (a := (1515, zi_go 18)) (zs_goto (M := 197) (pc := 1515) (zd_eq zk197 (by decide +kernel : decode cL_law 1515 = .ok (.goto (-1497), 3))) (by decide)) <|
  zcons (a := (1518, zi_k (.int 1) 1519)) (zs_iconst (M := 197) (pc := 1518) (zd_eq zk197 (by decide +kernel : decode cL_law 1518 = .ok (.iconst 1, 1))) (by decide)) <|
  zcons (a := (1519, zi_rz)) (zs_rz (M := 197) (pc := 1519) (zd_eq zk197 (by decide +kernel : decode cL_law 1519 = .ok (.ireturn, 1))) rfl) <| znil
theorem zS197 : ∀ pc, zm_Snd 197 pc (zm_lk2 zm_c197 pc) := zlk2 (zcons2 zS197_0 (zcons2 zS197_1 (zcons2 zS197_2 (zcons2 zS197_3 (zcons2 zS197_4 (zcons2 zS197_5 (zcons2 zS197_6 (zcons2 zS197_7 (zcons2 zS197_8 (zcons2 zS197_9 (zcons2 zS197_10 (zcons2 zS197_11 (zcons2 zS197_12 (zcons2 zS197_13 (zcons2 zS197_14 (zcons2 zS197_15 (zcons2 zS197_16 (zcons2 zS197_17 (zcons2 zS197_18 (zcons2 zS197_19 (zcons2 zS197_20 (zcons2 zS197_21 (zcons2 zS197_22 (zcons2 zS197_23 (zcons2 zS197_24 (zcons2 zS197_25 (zcons2 zS197_26 (zcons2 zS197_27 (zcons2 zS197_28 (zcons2 zS197_29 (zcons2 zS197_30 (zcons2 zS197_31 (zcons2 zS197_32 (zcons2 zS197_33 (zcons2 zS197_34 (zcons2 zS197_35 (zcons2 zS197_36 (zcons2 zS197_37 (zcons2 zS197_38 (zcons2 zS197_39 (zcons2 zS197_40 (zcons2 zS197_41 (zcons2 zS197_42 (zcons2 zS197_43 (zcons2 zS197_44 (znil2))))))))))))))))))))))))))))))))))))))))))))))
