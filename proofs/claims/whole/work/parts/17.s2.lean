theorem zS61_0 : ∀ q ∈ zm_c61_0, zm_Snd 61 q.1 q.2 :=
  zcons (a := (0, zi_al 0 1)) (zs_al_n (M := 61) (pc := 0) (zd_eq zk61 (by decide +kernel : decode cX6_init 0 = .ok (.aload_n 0, 1)))) <|
  zcons (a := (1, zi_oi 4)) (zs_oi (M := 61) (pc := 1) (zd_eq zk61 (by decide +kernel : decode cX6_init 1 = .ok (.invokespecial 1, 3))) (zl_mo zo61 zw_70) zw_71 zw_72) <|
  zcons (a := (4, zi_al 0 5)) (zs_al_n (M := 61) (pc := 4) (zd_eq zk61 (by decide +kernel : decode cX6_init 4 = .ok (.aload_n 0, 1)))) <|
  zcons (a := (5, zi_new 1 8)) (zs_new (M := 61) (pc := 5) (ci := 1) (C := RX1) (T := TX1) (N := 4) (ty := tyX1) (zd_eq zk61 (by decide +kernel : decode cX6_init 5 = .ok (.new 7, 3))) rfl rfl zin_1 tyX1_ok (zl_c zo61 zw_73) zw_74 zw_50 zdf_1 zvr_1) <|
  zcons (a := (8, zi_dup 9)) (zs_dup (M := 61) (pc := 8) (zd_eq zk61 (by decide +kernel : decode cX6_init 8 = .ok (.dup, 1)))) <|
  zcons (a := (9, zi_ci 28 0 12 0)) (zs_ci (M := 61) (pc := 9) (M' := 28) (k := 0) (kd := 0) (zd_eq zk61 (by decide +kernel : decode cX6_init 9 = .ok (.invokespecial 9, 3))) zWd28 (Or.inl (zl_m zo61 zy28 zw_75)) (zl_i zy28 zw_76) rfl (by rw [zy28]; rfl)) <|
  zcons (a := (12, zi_pr 6 0 15)) (zs_pr (M := 61) (pc := 12) (ci := 6) (k := 0) (C := RX6) (T := TX6) (N := 14) (ty0 := tyX6) (zd_eq zk61 (by decide +kernel : decode cX6_init 12 = .ok (.putfield 10, 3))) rfl (by decide) (by decide) zin_6 (zl_f zo61 zw_233) tyX6_ok nmX6 rfl (by rw [zy61]; rfl) (by rw [zo61]; rfl) (tyX6_ok 0 (by decide)) (fun _ => rfl) (fun _ => rfl)) <|
  zcons (a := (15, zi_al 0 16)) (zs_al_n (M := 61) (pc := 15) (zd_eq zk61 (by decide +kernel : decode cX6_init 15 = .ok (.aload_n 0, 1)))) <|
  zcons (a := (16, zi_new 1 19)) (zs_new (M := 61) (pc := 16) (ci := 1) (C := RX1) (T := TX1) (N := 4) (ty := tyX1) (zd_eq zk61 (by decide +kernel : decode cX6_init 16 = .ok (.new 7, 3))) rfl rfl zin_1 tyX1_ok (zl_c zo61 zw_73) zw_74 zw_50 zdf_1 zvr_1) <|
  zcons (a := (19, zi_dup 20)) (zs_dup (M := 61) (pc := 19) (zd_eq zk61 (by decide +kernel : decode cX6_init 19 = .ok (.dup, 1)))) <|
  zcons (a := (20, zi_ci 28 0 23 0)) (zs_ci (M := 61) (pc := 20) (M' := 28) (k := 0) (kd := 0) (zd_eq zk61 (by decide +kernel : decode cX6_init 20 = .ok (.invokespecial 9, 3))) zWd28 (Or.inl (zl_m zo61 zy28 zw_75)) (zl_i zy28 zw_76) rfl (by rw [zy28]; rfl)) <|
  zcons (a := (23, zi_pr 6 1 26)) (zs_pr (M := 61) (pc := 23) (ci := 6) (k := 1) (C := RX6) (T := TX6) (N := 14) (ty0 := tyX6) (zd_eq zk61 (by decide +kernel : decode cX6_init 23 = .ok (.putfield 16, 3))) rfl (by decide) (by decide) zin_6 (zl_f zo61 zw_234) tyX6_ok nmX6 rfl (by rw [zy61]; rfl) (by rw [zo61]; rfl) (tyX6_ok 1 (by decide)) (fun _ => rfl) (fun _ => rfl)) <|
  zcons (a := (26, zi_al 0 27)) (zs_al_n (M := 61) (pc := 26) (zd_eq zk61 (by decide +kernel : decode cX6_init 26 = .ok (.aload_n 0, 1)))) <|
  zcons (a := (27, zi_new 0 30)) (zs_new (M := 61) (pc := 27) (ci := 0) (C := RX0) (T := TX0) (N := 3) (ty := tyX0) (zd_eq zk61 (by decide +kernel : decode cX6_init 27 = .ok (.new 19, 3))) rfl rfl zin_0 tyX0_ok (zl_c zo61 zw_142) zw_87 zw_52 zdf_0 zvr_0) <|
  zcons (a := (30, zi_dup 31)) (zs_dup (M := 61) (pc := 30) (zd_eq zk61 (by decide +kernel : decode cX6_init 30 = .ok (.dup, 1)))) <|
  zcons (a := (31, zi_ci 9 0 34 0)) (zs_ci (M := 61) (pc := 31) (M' := 9) (k := 0) (kd := 0) (zd_eq zk61 (by decide +kernel : decode cX6_init 31 = .ok (.invokespecial 21, 3))) zWd9 (Or.inr (Or.inr (by rw [zo61, zy9]))) (zl_i zy9 zw_89) rfl (by rw [zy9]; rfl)) <|
  zcons (a := (34, zi_pr 6 2 37)) (zs_pr (M := 61) (pc := 34) (ci := 6) (k := 2) (C := RX6) (T := TX6) (N := 14) (ty0 := tyX6) (zd_eq zk61 (by decide +kernel : decode cX6_init 34 = .ok (.putfield 22, 3))) rfl (by decide) (by decide) zin_6 (zl_f zo61 zw_235) tyX6_ok nmX6 rfl (by rw [zy61]; rfl) (by rw [zo61]; rfl) (tyX6_ok 2 (by decide)) (fun _ => rfl) (fun _ => rfl)) <|
  zcons (a := (37, zi_al 0 38)) (zs_al_n (M := 61) (pc := 37) (zd_eq zk61 (by decide +kernel : decode cX6_init 37 = .ok (.aload_n 0, 1)))) <|
  zcons (a := (38, zi_k (.int 9) 40)) (zs_bipush (M := 61) (pc := 38) (zd_eq zk61 (by decide +kernel : decode cX6_init 38 = .ok (.bipush 9, 2))) (by decide)) <|
  zcons (a := (40, zi_nq 4 43)) (zs_nq (M := 61) (pc := 40) (t := 4) (C := "SnowReign$Row") (zd_eq zk61 (by decide +kernel : decode cX6_init 40 = .ok (.anewarray 26, 3))) rfl (zl_c zo61 zw_144) zao_4) <|
  zcons (a := (43, zi_pr 6 3 46)) (zs_pr (M := 61) (pc := 43) (ci := 6) (k := 3) (C := RX6) (T := TX6) (N := 14) (ty0 := tyX6) (zd_eq zk61 (by decide +kernel : decode cX6_init 43 = .ok (.putfield 28, 3))) rfl (by decide) (by decide) zin_6 (zl_f zo61 zw_236) tyX6_ok nmX6 rfl (by rw [zy61]; rfl) (by rw [zo61]; rfl) (tyX6_ok 3 (by decide)) (fun _ => rfl) (fun _ => rfl)) <|
  zcons (a := (46, zi_k (.int 0) 47)) (zs_iconst (M := 61) (pc := 46) (zd_eq zk61 (by decide +kernel : decode cX6_init 46 = .ok (.iconst 0, 1))) (by decide)) <|
  zcons (a := (47, zi_is 1 48)) (zs_is_n (M := 61) (pc := 47) (zd_eq zk61 (by decide +kernel : decode cX6_init 47 = .ok (.istore_n 1, 1))) (by decide +kernel) (by decide +kernel)) <|
  zcons (a := (48, zi_il 1 49)) (zs_il_n (M := 61) (pc := 48) (zd_eq zk61 (by decide +kernel : decode cX6_init 48 = .ok (.iload_n 1, 1)))) <| znil
theorem zS61_1 : ∀ q ∈ zm_c61_1, zm_Snd 61 q.1 q.2 :=
  zcons (a := (49, zi_al 0 50)) (zs_al_n (M := 61) (pc := 49) (zd_eq zk61 (by decide +kernel : decode cX6_init 49 = .ok (.aload_n 0, 1)))) <|
  zcons (a := (50, zi_gr 6 3 53)) (zs_gr (M := 61) (pc := 50) (n := 0) (ci := 6) (k := 3) (C := RX6) (T := TX6) (N := 14) (zd_eq zk61 (by decide +kernel : decode cX6_init 50 = .ok (.getfield 28, 3))) rfl (by decide) (by decide) zin_6 (zl_f zo61 zw_236)) <|
  zcons (a := (53, zi_len 54)) (zs_len (M := 61) (pc := 53) (zd_eq zk61 (by decide +kernel : decode cX6_init 53 = .ok (.arraylength, 1)))) <|
  zcons (a := (54, zi_b2 (fun x y => y ≤ x) 76 57)) (zs_icmpge (M := 61) (pc := 54) (zd_eq zk61 (by decide +kernel : decode cX6_init 54 = .ok (.if_icmp .ge 22, 3))) (by decide)) <|
  zcons (a := (57, zi_al 0 58)) (zs_al_n (M := 61) (pc := 57) (zd_eq zk61 (by decide +kernel : decode cX6_init 57 = .ok (.aload_n 0, 1)))) <|
  zcons (a := (58, zi_gr 6 3 61)) (zs_gr (M := 61) (pc := 58) (n := 0) (ci := 6) (k := 3) (C := RX6) (T := TX6) (N := 14) (zd_eq zk61 (by decide +kernel : decode cX6_init 58 = .ok (.getfield 28, 3))) rfl (by decide) (by decide) zin_6 (zl_f zo61 zw_236)) <|
  zcons (a := (61, zi_il 1 62)) (zs_il_n (M := 61) (pc := 61) (zd_eq zk61 (by decide +kernel : decode cX6_init 61 = .ok (.iload_n 1, 1)))) <|
  zcons (a := (62, zi_new 2 65)) (zs_new (M := 61) (pc := 62) (ci := 2) (C := RX2) (T := TX2) (N := 2) (ty := tyX2) (zd_eq zk61 (by decide +kernel : decode cX6_init 62 = .ok (.new 26, 3))) rfl rfl zin_2 tyX2_ok (zl_c zo61 zw_144) zw_80 zw_51 zdf_2 zvr_2) <|
  zcons (a := (65, zi_dup 66)) (zs_dup (M := 61) (pc := 65) (zd_eq zk61 (by decide +kernel : decode cX6_init 65 = .ok (.dup, 1)))) <|
  zcons (a := (66, zi_ci 18 0 69 0)) (zs_ci (M := 61) (pc := 66) (M' := 18) (k := 0) (kd := 0) (zd_eq zk61 (by decide +kernel : decode cX6_init 66 = .ok (.invokespecial 32, 3))) zWd18 (Or.inl (zl_m zo61 zy18 zw_146)) (zl_i zy18 zw_82) rfl (by rw [zy18]; rfl)) <|
  zcons (a := (69, zi_qst 4 2 70)) (zs_qst (M := 61) (pc := 69) (t := 4) (ci := 2) (by decide) rfl rfl (zd_eq zk61 (by decide +kernel : decode cX6_init 69 = .ok (.aastore, 1)))) <|
  zcons (a := (70, zi_inc 1 1 73)) (zs_inc (M := 61) (pc := 70) (zd_eq zk61 (by decide +kernel : decode cX6_init 70 = .ok (.iinc 1 1, 3))) (by decide) (by decide +kernel) (by decide +kernel)) <|
  zcons (a := (73, zi_go 48)) (zs_goto (M := 61) (pc := 73) (zd_eq zk61 (by decide +kernel : decode cX6_init 73 = .ok (.goto (-25), 3))) (by decide)) <|
  zcons (a := (76, zi_al 0 77)) (zs_al_n (M := 61) (pc := 76) (zd_eq zk61 (by decide +kernel : decode cX6_init 76 = .ok (.aload_n 0, 1)))) <|
  zcons (a := (77, zi_k (.int 4) 78)) (zs_iconst (M := 61) (pc := 77) (zd_eq zk61 (by decide +kernel : decode cX6_init 77 = .ok (.iconst 4, 1))) (by decide)) <|
  zcons (a := (78, zi_k (.int 31) 80)) (zs_bipush (M := 61) (pc := 78) (zd_eq zk61 (by decide +kernel : decode cX6_init 78 = .ok (.bipush 31, 2))) (by decide)) <|
  zcons (a := (80, zi_nn 84)) (zs_nn (M := 61) (pc := 80) (zd_eq zk61 (by decide +kernel : decode cX6_init 80 = .ok (.multianewarray 33 2, 4))) (zl_c zo61 zw_147) zw_141) <|
  zcons (a := (84, zi_pr 6 4 87)) (zs_pr (M := 61) (pc := 84) (ci := 6) (k := 4) (C := RX6) (T := TX6) (N := 14) (ty0 := tyX6) (zd_eq zk61 (by decide +kernel : decode cX6_init 84 = .ok (.putfield 35, 3))) rfl (by decide) (by decide) zin_6 (zl_f zo61 zw_237) tyX6_ok nmX6 rfl (by rw [zy61]; rfl) (by rw [zo61]; rfl) (tyX6_ok 4 (by decide)) (fun _ => rfl) (fun _ => rfl)) <|
  zcons (a := (87, zi_al 0 88)) (zs_al_n (M := 61) (pc := 87) (zd_eq zk61 (by decide +kernel : decode cX6_init 87 = .ok (.aload_n 0, 1)))) <|
  zcons (a := (88, zi_new 5 91)) (zs_new (M := 61) (pc := 88) (ci := 5) (C := RX5) (T := TX5) (N := 6) (ty := tyX5) (zd_eq zk61 (by decide +kernel : decode cX6_init 88 = .ok (.new 38, 3))) rfl rfl zin_5 tyX5_ok (zl_c zo61 zw_149) zw_150 zw_54 zdf_5 zvr_5) <|
  zcons (a := (91, zi_dup 92)) (zs_dup (M := 61) (pc := 91) (zd_eq zk61 (by decide +kernel : decode cX6_init 91 = .ok (.dup, 1)))) <|
  zcons (a := (92, zi_ci 46 0 95 0)) (zs_ci (M := 61) (pc := 92) (M' := 46) (k := 0) (kd := 0) (zd_eq zk61 (by decide +kernel : decode cX6_init 92 = .ok (.invokespecial 40, 3))) zWd46 (Or.inl (zl_m zo61 zy46 zw_151)) (zl_i zy46 zw_152) rfl (by rw [zy46]; rfl)) <|
  zcons (a := (95, zi_pr 6 5 98)) (zs_pr (M := 61) (pc := 95) (ci := 6) (k := 5) (C := RX6) (T := TX6) (N := 14) (ty0 := tyX6) (zd_eq zk61 (by decide +kernel : decode cX6_init 95 = .ok (.putfield 41, 3))) rfl (by decide) (by decide) zin_6 (zl_f zo61 zw_238) tyX6_ok nmX6 rfl (by rw [zy61]; rfl) (by rw [zo61]; rfl) (tyX6_ok 5 (by decide)) (fun _ => rfl) (fun _ => rfl)) <|
  zcons (a := (98, zi_al 0 99)) (zs_al_n (M := 61) (pc := 98) (zd_eq zk61 (by decide +kernel : decode cX6_init 98 = .ok (.aload_n 0, 1)))) <| znil
theorem zS61_2 : ∀ q ∈ zm_c61_2, zm_Snd 61 q.1 q.2 :=
  zcons (a := (99, zi_k (.int 6) 101)) (zs_bipush (M := 61) (pc := 99) (zd_eq zk61 (by decide +kernel : decode cX6_init 99 = .ok (.bipush 6, 2))) (by decide)) <|
  zcons (a := (101, zi_na 0 103)) (zs_na (M := 61) (pc := 101) (t := 0) (at_ := .int) (zd_eq zk61 (by decide +kernel : decode cX6_init 101 = .ok (.newarray .int, 2))) rfl zw_141 rfl (by decide)) <|
  zcons (a := (103, zi_pr 6 7 106)) (zs_pr (M := 61) (pc := 103) (ci := 6) (k := 7) (C := RX6) (T := TX6) (N := 14) (ty0 := tyX6) (zd_eq zk61 (by decide +kernel : decode cX6_init 103 = .ok (.putfield 45, 3))) rfl (by decide) (by decide) zin_6 (zl_f zo61 zw_240) tyX6_ok nmX6 rfl (by rw [zy61]; rfl) (by rw [zo61]; rfl) (tyX6_ok 7 (by decide)) (fun _ => rfl) (fun _ => rfl)) <|
  zcons (a := (106, zi_al 0 107)) (zs_al_n (M := 61) (pc := 106) (zd_eq zk61 (by decide +kernel : decode cX6_init 106 = .ok (.aload_n 0, 1)))) <|
  zcons (a := (107, zi_k (.int 6) 109)) (zs_bipush (M := 61) (pc := 107) (zd_eq zk61 (by decide +kernel : decode cX6_init 107 = .ok (.bipush 6, 2))) (by decide)) <|
  zcons (a := (109, zi_na 0 111)) (zs_na (M := 61) (pc := 109) (t := 0) (at_ := .int) (zd_eq zk61 (by decide +kernel : decode cX6_init 109 = .ok (.newarray .int, 2))) rfl zw_141 rfl (by decide)) <|
  zcons (a := (111, zi_pr 6 8 114)) (zs_pr (M := 61) (pc := 111) (ci := 6) (k := 8) (C := RX6) (T := TX6) (N := 14) (ty0 := tyX6) (zd_eq zk61 (by decide +kernel : decode cX6_init 111 = .ok (.putfield 49, 3))) rfl (by decide) (by decide) zin_6 (zl_f zo61 zw_241) tyX6_ok nmX6 rfl (by rw [zy61]; rfl) (by rw [zo61]; rfl) (tyX6_ok 8 (by decide)) (fun _ => rfl) (fun _ => rfl)) <|
  zcons (a := (114, zi_al 0 115)) (zs_al_n (M := 61) (pc := 114) (zd_eq zk61 (by decide +kernel : decode cX6_init 114 = .ok (.aload_n 0, 1)))) <|
  zcons (a := (115, zi_k (.int 2) 116)) (zs_iconst (M := 61) (pc := 115) (zd_eq zk61 (by decide +kernel : decode cX6_init 115 = .ok (.iconst 2, 1))) (by decide)) <|
  zcons (a := (116, zi_nq 5 119)) (zs_nq (M := 61) (pc := 116) (t := 5) (C := "SnowReign$Province") (zd_eq zk61 (by decide +kernel : decode cX6_init 116 = .ok (.anewarray 7, 3))) rfl (zl_c zo61 zw_73) zao_5) <|
  zcons (a := (119, zi_pr 6 10 122)) (zs_pr (M := 61) (pc := 119) (ci := 6) (k := 10) (C := RX6) (T := TX6) (N := 14) (ty0 := tyX6) (zd_eq zk61 (by decide +kernel : decode cX6_init 119 = .ok (.putfield 52, 3))) rfl (by decide) (by decide) zin_6 (zl_f zo61 zw_243) tyX6_ok nmX6 rfl (by rw [zy61]; rfl) (by rw [zo61]; rfl) (tyX6_ok 10 (by decide)) (fun _ => rfl) (fun _ => rfl)) <|
  zcons (a := (122, zi_k (.int 0) 123)) (zs_iconst (M := 61) (pc := 122) (zd_eq zk61 (by decide +kernel : decode cX6_init 122 = .ok (.iconst 0, 1))) (by decide)) <|
  zcons (a := (123, zi_is 1 124)) (zs_is_n (M := 61) (pc := 123) (zd_eq zk61 (by decide +kernel : decode cX6_init 123 = .ok (.istore_n 1, 1))) (by decide +kernel) (by decide +kernel)) <|
  zcons (a := (124, zi_il 1 125)) (zs_il_n (M := 61) (pc := 124) (zd_eq zk61 (by decide +kernel : decode cX6_init 124 = .ok (.iload_n 1, 1)))) <|
  zcons (a := (125, zi_k (.int 2) 126)) (zs_iconst (M := 61) (pc := 125) (zd_eq zk61 (by decide +kernel : decode cX6_init 125 = .ok (.iconst 2, 1))) (by decide)) <|
  zcons (a := (126, zi_b2 (fun x y => y ≤ x) 148 129)) (zs_icmpge (M := 61) (pc := 126) (zd_eq zk61 (by decide +kernel : decode cX6_init 126 = .ok (.if_icmp .ge 22, 3))) (by decide)) <|
  zcons (a := (129, zi_al 0 130)) (zs_al_n (M := 61) (pc := 129) (zd_eq zk61 (by decide +kernel : decode cX6_init 129 = .ok (.aload_n 0, 1)))) <|
  zcons (a := (130, zi_gr 6 10 133)) (zs_gr (M := 61) (pc := 130) (n := 0) (ci := 6) (k := 10) (C := RX6) (T := TX6) (N := 14) (zd_eq zk61 (by decide +kernel : decode cX6_init 130 = .ok (.getfield 52, 3))) rfl (by decide) (by decide) zin_6 (zl_f zo61 zw_243)) <|
  zcons (a := (133, zi_il 1 134)) (zs_il_n (M := 61) (pc := 133) (zd_eq zk61 (by decide +kernel : decode cX6_init 133 = .ok (.iload_n 1, 1)))) <|
  zcons (a := (134, zi_new 1 137)) (zs_new (M := 61) (pc := 134) (ci := 1) (C := RX1) (T := TX1) (N := 4) (ty := tyX1) (zd_eq zk61 (by decide +kernel : decode cX6_init 134 = .ok (.new 7, 3))) rfl rfl zin_1 tyX1_ok (zl_c zo61 zw_73) zw_74 zw_50 zdf_1 zvr_1) <|
  zcons (a := (137, zi_dup 138)) (zs_dup (M := 61) (pc := 137) (zd_eq zk61 (by decide +kernel : decode cX6_init 137 = .ok (.dup, 1)))) <|
  zcons (a := (138, zi_ci 28 0 141 0)) (zs_ci (M := 61) (pc := 138) (M' := 28) (k := 0) (kd := 0) (zd_eq zk61 (by decide +kernel : decode cX6_init 138 = .ok (.invokespecial 9, 3))) zWd28 (Or.inl (zl_m zo61 zy28 zw_75)) (zl_i zy28 zw_76) rfl (by rw [zy28]; rfl)) <|
  zcons (a := (141, zi_qst 5 1 142)) (zs_qst (M := 61) (pc := 141) (t := 5) (ci := 1) (by decide) rfl rfl (zd_eq zk61 (by decide +kernel : decode cX6_init 141 = .ok (.aastore, 1)))) <|
  zcons (a := (142, zi_inc 1 1 145)) (zs_inc (M := 61) (pc := 142) (zd_eq zk61 (by decide +kernel : decode cX6_init 142 = .ok (.iinc 1 1, 3))) (by decide) (by decide +kernel) (by decide +kernel)) <| znil
theorem zS61_3 : ∀ q ∈ zm_c61_3, zm_Snd 61 q.1 q.2 :=
  zcons (a := (145, zi_go 124)) (zs_goto (M := 61) (pc := 145) (zd_eq zk61 (by decide +kernel : decode cX6_init 145 = .ok (.goto (-21), 3))) (by decide)) <|
  zcons (a := (148, zi_al 0 149)) (zs_al_n (M := 61) (pc := 148) (zd_eq zk61 (by decide +kernel : decode cX6_init 148 = .ok (.aload_n 0, 1)))) <|
  zcons (a := (149, zi_k (.int 2) 150)) (zs_iconst (M := 61) (pc := 149) (zd_eq zk61 (by decide +kernel : decode cX6_init 149 = .ok (.iconst 2, 1))) (by decide)) <|
  zcons (a := (150, zi_na 2 152)) (zs_na (M := 61) (pc := 150) (t := 2) (at_ := .boolean) (zd_eq zk61 (by decide +kernel : decode cX6_init 150 = .ok (.newarray .boolean, 2))) rfl zw_232 rfl (by decide)) <|
  zcons (a := (152, zi_pr 6 11 155)) (zs_pr (M := 61) (pc := 152) (ci := 6) (k := 11) (C := RX6) (T := TX6) (N := 14) (ty0 := tyX6) (zd_eq zk61 (by decide +kernel : decode cX6_init 152 = .ok (.putfield 56, 3))) rfl (by decide) (by decide) zin_6 (zl_f zo61 zw_244) tyX6_ok nmX6 rfl (by rw [zy61]; rfl) (by rw [zo61]; rfl) (tyX6_ok 11 (by decide)) (fun _ => rfl) (fun _ => rfl)) <|
  zcons (a := (155, zi_al 0 156)) (zs_al_n (M := 61) (pc := 155) (zd_eq zk61 (by decide +kernel : decode cX6_init 155 = .ok (.aload_n 0, 1)))) <|
  zcons (a := (156, zi_k (.int 4) 157)) (zs_iconst (M := 61) (pc := 156) (zd_eq zk61 (by decide +kernel : decode cX6_init 156 = .ok (.iconst 4, 1))) (by decide)) <|
  zcons (a := (157, zi_nq 6 160)) (zs_nq (M := 61) (pc := 157) (t := 6) (C := "SnowReign$Sheet") (zd_eq zk61 (by decide +kernel : decode cX6_init 157 = .ok (.anewarray 60, 3))) rfl (zl_c zo61 zw_212) zao_6) <|
  zcons (a := (160, zi_pr 6 12 163)) (zs_pr (M := 61) (pc := 160) (ci := 6) (k := 12) (C := RX6) (T := TX6) (N := 14) (ty0 := tyX6) (zd_eq zk61 (by decide +kernel : decode cX6_init 160 = .ok (.putfield 62, 3))) rfl (by decide) (by decide) zin_6 (zl_f zo61 zw_245) tyX6_ok nmX6 rfl (by rw [zy61]; rfl) (by rw [zo61]; rfl) (tyX6_ok 12 (by decide)) (fun _ => rfl) (fun _ => rfl)) <|
  zcons (a := (163, zi_k (.int 0) 164)) (zs_iconst (M := 61) (pc := 163) (zd_eq zk61 (by decide +kernel : decode cX6_init 163 = .ok (.iconst 0, 1))) (by decide)) <|
  zcons (a := (164, zi_is 1 165)) (zs_is_n (M := 61) (pc := 164) (zd_eq zk61 (by decide +kernel : decode cX6_init 164 = .ok (.istore_n 1, 1))) (by decide +kernel) (by decide +kernel)) <|
  zcons (a := (165, zi_il 1 166)) (zs_il_n (M := 61) (pc := 165) (zd_eq zk61 (by decide +kernel : decode cX6_init 165 = .ok (.iload_n 1, 1)))) <|
  zcons (a := (166, zi_k (.int 4) 167)) (zs_iconst (M := 61) (pc := 166) (zd_eq zk61 (by decide +kernel : decode cX6_init 166 = .ok (.iconst 4, 1))) (by decide)) <|
  zcons (a := (167, zi_b2 (fun x y => y ≤ x) 189 170)) (zs_icmpge (M := 61) (pc := 167) (zd_eq zk61 (by decide +kernel : decode cX6_init 167 = .ok (.if_icmp .ge 22, 3))) (by decide)) <|
  zcons (a := (170, zi_al 0 171)) (zs_al_n (M := 61) (pc := 170) (zd_eq zk61 (by decide +kernel : decode cX6_init 170 = .ok (.aload_n 0, 1)))) <|
  zcons (a := (171, zi_gr 6 12 174)) (zs_gr (M := 61) (pc := 171) (n := 0) (ci := 6) (k := 12) (C := RX6) (T := TX6) (N := 14) (zd_eq zk61 (by decide +kernel : decode cX6_init 171 = .ok (.getfield 62, 3))) rfl (by decide) (by decide) zin_6 (zl_f zo61 zw_245)) <|
  zcons (a := (174, zi_il 1 175)) (zs_il_n (M := 61) (pc := 174) (zd_eq zk61 (by decide +kernel : decode cX6_init 174 = .ok (.iload_n 1, 1)))) <|
  zcons (a := (175, zi_new 3 178)) (zs_new (M := 61) (pc := 175) (ci := 3) (C := RX3) (T := TX3) (N := 3) (ty := tyX3) (zd_eq zk61 (by decide +kernel : decode cX6_init 175 = .ok (.new 60, 3))) rfl rfl zin_3 tyX3_ok (zl_c zo61 zw_212) zw_214 zw_56 zdf_3 zvr_3) <|
  zcons (a := (178, zi_dup 179)) (zs_dup (M := 61) (pc := 178) (zd_eq zk61 (by decide +kernel : decode cX6_init 178 = .ok (.dup, 1)))) <|
  zcons (a := (179, zi_ci 56 0 182 0)) (zs_ci (M := 61) (pc := 179) (M' := 56) (k := 0) (kd := 0) (zd_eq zk61 (by decide +kernel : decode cX6_init 179 = .ok (.invokespecial 66, 3))) zWd56 (Or.inl (zl_m zo61 zy56 zw_215)) (zl_i zy56 zw_216) rfl (by rw [zy56]; rfl)) <|
  zcons (a := (182, zi_qst 6 3 183)) (zs_qst (M := 61) (pc := 182) (t := 6) (ci := 3) (by decide) rfl rfl (zd_eq zk61 (by decide +kernel : decode cX6_init 182 = .ok (.aastore, 1)))) <|
  zcons (a := (183, zi_inc 1 1 186)) (zs_inc (M := 61) (pc := 183) (zd_eq zk61 (by decide +kernel : decode cX6_init 183 = .ok (.iinc 1 1, 3))) (by decide) (by decide +kernel) (by decide +kernel)) <|
  zcons (a := (186, zi_go 165)) (zs_goto (M := 61) (pc := 186) (zd_eq zk61 (by decide +kernel : decode cX6_init 186 = .ok (.goto (-21), 3))) (by decide)) <|
  zcons (a := (189, zi_rv)) (zs_rv (M := 61) (pc := 189) (zd_eq zk61 (by decide +kernel : decode cX6_init 189 = .ok (.return_, 1))) rfl) <| znil
theorem zS61 : ∀ pc, zm_Snd 61 pc (zm_lk2 zm_c61 pc) := zlk2 (zcons2 zS61_0 (zcons2 zS61_1 (zcons2 zS61_2 (zcons2 zS61_3 (znil2)))))
theorem zS62_0 : ∀ q ∈ zm_c62_0, zm_Snd 62 q.1 q.2 :=
  zcons (a := (0, zi_il 1 1)) (zs_il_n (M := 62) (pc := 0) (zd_eq zk62 (by decide +kernel : decode cX6_feed 0 = .ok (.iload_n 1, 1)))) <|
  zcons (a := (1, zi_k (.int 127) 3)) (zs_bipush (M := 62) (pc := 1) (zd_eq zk62 (by decide +kernel : decode cX6_feed 1 = .ok (.bipush 127, 2))) (by decide)) <|
  zcons (a := (3, zi_cs 105 2 6 1)) (zs_cs (M := 62) (pc := 3) (M' := 105) (k := 2) (kd := 1) (zd_eq zk62 (by decide +kernel : decode cX6_feed 3 = .ok (.invokestatic 67, 3))) zWd105 (zl_m zo62 zy105 zw_280) (zl_s zy105 zw_281)) <|
  zcons (a := (6, zi_b1 (fun x => ¬ x = 0) 11 9)) (zs_ifne (M := 62) (pc := 6) (zd_eq zk62 (by decide +kernel : decode cX6_feed 6 = .ok (.ifCond .ne 5, 3))) (by decide)) <|
  zcons (a := (9, zi_k (.int (-1)) 10)) (zs_iconst (M := 62) (pc := 9) (zd_eq zk62 (by decide +kernel : decode cX6_feed 9 = .ok (.iconst (-1), 1))) (by decide)) <|
  zcons (a := (10, zi_ri)) (zs_ri (M := 62) (pc := 10) (zd_eq zk62 (by decide +kernel : decode cX6_feed 10 = .ok (.ireturn, 1))) rfl) <|
  zcons (a := (11, zi_al 0 12)) (zs_al_n (M := 62) (pc := 11) (zd_eq zk62 (by decide +kernel : decode cX6_feed 11 = .ok (.aload_n 0, 1)))) <|
  zcons (a := (12, zi_gr 6 5 15)) (zs_gr (M := 62) (pc := 12) (n := 0) (ci := 6) (k := 5) (C := RX6) (T := TX6) (N := 14) (zd_eq zk62 (by decide +kernel : decode cX6_feed 12 = .ok (.getfield 41, 3))) rfl (by decide) (by decide) zin_6 (zl_f zo62 zw_238)) <|
  zcons (a := (15, zi_gr 5 0 18)) (zs_gr (M := 62) (pc := 15) (n := 0) (ci := 5) (k := 0) (C := RX5) (T := TX5) (N := 6) (zd_eq zk62 (by decide +kernel : decode cX6_feed 15 = .ok (.getfield 71, 3))) rfl (by decide) (by decide) zin_5 (zl_f zo62 zw_188)) <|
  zcons (a := (18, zi_as 2 19)) (zs_as_n (M := 62) (pc := 18) (zd_eq zk62 (by decide +kernel : decode cX6_feed 18 = .ok (.astore_n 2, 1))) (by decide +kernel) (by decide +kernel)) <|
  zcons (a := (19, zi_al 2 20)) (zs_al_n (M := 62) (pc := 19) (zd_eq zk62 (by decide +kernel : decode cX6_feed 19 = .ok (.aload_n 2, 1)))) <|
  zcons (a := (20, zi_gi 4 1 23)) (zs_gi (M := 62) (pc := 20) (n := 0) (ci := 4) (k := 1) (C := RX4) (T := TX4) (N := 6) (zd_eq zk62 (by decide +kernel : decode cX6_feed 20 = .ok (.getfield 75, 3))) rfl (by decide) (by decide) zin_4 (zl_f zo62 zw_163)) <|
  zcons (a := (23, zi_k (.int 160) 26)) (zs_sipush (M := 62) (pc := 23) (zd_eq zk62 (by decide +kernel : decode cX6_feed 23 = .ok (.sipush 160, 3))) (by decide)) <|
  zcons (a := (26, zi_b2 (fun x y => x < y) 32 29)) (zs_icmplt (M := 62) (pc := 26) (zd_eq zk62 (by decide +kernel : decode cX6_feed 26 = .ok (.if_icmp .lt 6, 3))) (by decide)) <|
  zcons (a := (29, zi_k (.int (-3)) 31)) (zs_bipush (M := 62) (pc := 29) (zd_eq zk62 (by decide +kernel : decode cX6_feed 29 = .ok (.bipush (-3), 2))) (by decide)) <|
  zcons (a := (31, zi_ri)) (zs_ri (M := 62) (pc := 31) (zd_eq zk62 (by decide +kernel : decode cX6_feed 31 = .ok (.ireturn, 1))) rfl) <|
  zcons (a := (32, zi_al 2 33)) (zs_al_n (M := 62) (pc := 32) (zd_eq zk62 (by decide +kernel : decode cX6_feed 32 = .ok (.aload_n 2, 1)))) <|
  zcons (a := (33, zi_il 1 34)) (zs_il_n (M := 62) (pc := 33) (zd_eq zk62 (by decide +kernel : decode cX6_feed 33 = .ok (.iload_n 1, 1)))) <|
  zcons (a := (34, zi_cv 40 1 4 37 0)) (zs_cv (M := 62) (pc := 34) (M' := 40) (k := 1) (kd := 0) (ci := 4) (q := (RX4, TX4, 6)) (zd_eq zk62 (by decide +kernel : decode cX6_feed 34 = .ok (.invokevirtual 81, 3))) zWd40 (zl_m zo62 zy40 zw_283) (zl_i zy40 zw_284) (zl_e zy40 zw_285) (by decide) rfl (by rw [zo40])) <|
  zcons (a := (37, zi_al 2 38)) (zs_al_n (M := 62) (pc := 37) (zd_eq zk62 (by decide +kernel : decode cX6_feed 37 = .ok (.aload_n 2, 1)))) <|
  zcons (a := (38, zi_gi 4 1 41)) (zs_gi (M := 62) (pc := 38) (n := 0) (ci := 4) (k := 1) (C := RX4) (T := TX4) (N := 6) (zd_eq zk62 (by decide +kernel : decode cX6_feed 38 = .ok (.getfield 75, 3))) rfl (by decide) (by decide) zin_4 (zl_f zo62 zw_163)) <|
  zcons (a := (41, zi_ri)) (zs_ri (M := 62) (pc := 41) (zd_eq zk62 (by decide +kernel : decode cX6_feed 41 = .ok (.ireturn, 1))) rfl) <| znil
theorem zS62 : ∀ pc, zm_Snd 62 pc (zm_lk2 zm_c62 pc) := zlk2 (zcons2 zS62_0 (znil2))
theorem zS63_0 : ∀ q ∈ zm_c63_0, zm_Snd 63 q.1 q.2 :=
  zcons (a := (0, zi_al 0 1)) (zs_al_n (M := 63) (pc := 0) (zd_eq zk63 (by decide +kernel : decode cX6_end 0 = .ok (.aload_n 0, 1)))) <|
  zcons (a := (1, zi_gr 6 5 4)) (zs_gr (M := 63) (pc := 1) (n := 0) (ci := 6) (k := 5) (C := RX6) (T := TX6) (N := 14) (zd_eq zk63 (by decide +kernel : decode cX6_end 1 = .ok (.getfield 41, 3))) rfl (by decide) (by decide) zin_6 (zl_f zo63 zw_238)) <|
  zcons (a := (4, zi_gr 5 0 7)) (zs_gr (M := 63) (pc := 4) (n := 0) (ci := 5) (k := 0) (C := RX5) (T := TX5) (N := 6) (zd_eq zk63 (by decide +kernel : decode cX6_end 4 = .ok (.getfield 71, 3))) rfl (by decide) (by decide) zin_5 (zl_f zo63 zw_188)) <|
  zcons (a := (7, zi_as 2 8)) (zs_as_n (M := 63) (pc := 7) (zd_eq zk63 (by decide +kernel : decode cX6_end 7 = .ok (.astore_n 2, 1))) (by decide +kernel) (by decide +kernel)) <|
  zcons (a := (8, zi_il 1 9)) (zs_il_n (M := 63) (pc := 8) (zd_eq zk63 (by decide +kernel : decode cX6_end 8 = .ok (.iload_n 1, 1)))) <|
  zcons (a := (9, zi_al 2 10)) (zs_al_n (M := 63) (pc := 9) (zd_eq zk63 (by decide +kernel : decode cX6_end 9 = .ok (.aload_n 2, 1)))) <|
  zcons (a := (10, zi_gi 4 1 13)) (zs_gi (M := 63) (pc := 10) (n := 0) (ci := 4) (k := 1) (C := RX4) (T := TX4) (N := 6) (zd_eq zk63 (by decide +kernel : decode cX6_end 10 = .ok (.getfield 75, 3))) rfl (by decide) (by decide) zin_4 (zl_f zo63 zw_163)) <|
  zcons (a := (13, zi_cs 105 2 16 1)) (zs_cs (M := 63) (pc := 13) (M' := 105) (k := 2) (kd := 1) (zd_eq zk63 (by decide +kernel : decode cX6_end 13 = .ok (.invokestatic 67, 3))) zWd105 (zl_m zo63 zy105 zw_280) (zl_s zy105 zw_281)) <|
  zcons (a := (16, zi_b1 (fun x => ¬ x = 0) 21 19)) (zs_ifne (M := 63) (pc := 16) (zd_eq zk63 (by decide +kernel : decode cX6_end 16 = .ok (.ifCond .ne 5, 3))) (by decide)) <|
  zcons (a := (19, zi_k (.int (-1)) 20)) (zs_iconst (M := 63) (pc := 19) (zd_eq zk63 (by decide +kernel : decode cX6_end 19 = .ok (.iconst (-1), 1))) (by decide)) <|
  zcons (a := (20, zi_ri)) (zs_ri (M := 63) (pc := 20) (zd_eq zk63 (by decide +kernel : decode cX6_end 20 = .ok (.ireturn, 1))) rfl) <|
  zcons (a := (21, zi_al 2 22)) (zs_al_n (M := 63) (pc := 21) (zd_eq zk63 (by decide +kernel : decode cX6_end 21 = .ok (.aload_n 2, 1)))) <|
  zcons (a := (22, zi_gi 4 1 25)) (zs_gi (M := 63) (pc := 22) (n := 0) (ci := 4) (k := 1) (C := RX4) (T := TX4) (N := 6) (zd_eq zk63 (by decide +kernel : decode cX6_end 22 = .ok (.getfield 75, 3))) rfl (by decide) (by decide) zin_4 (zl_f zo63 zw_163)) <|
  zcons (a := (25, zi_is 3 26)) (zs_is_n (M := 63) (pc := 25) (zd_eq zk63 (by decide +kernel : decode cX6_end 25 = .ok (.istore_n 3, 1))) (by decide +kernel) (by decide +kernel)) <|
  zcons (a := (26, zi_al 2 27)) (zs_al_n (M := 63) (pc := 26) (zd_eq zk63 (by decide +kernel : decode cX6_end 26 = .ok (.aload_n 2, 1)))) <|
  zcons (a := (27, zi_il 1 28)) (zs_il_n (M := 63) (pc := 27) (zd_eq zk63 (by decide +kernel : decode cX6_end 27 = .ok (.iload_n 1, 1)))) <|
  zcons (a := (28, zi_pf 4 1 31)) (zs_pf (M := 63) (pc := 28) (ci := 4) (k := 1) (C := RX4) (T := TX4) (N := 6) (ty0 := tyX4) (zd_eq zk63 (by decide +kernel : decode cX6_end 28 = .ok (.putfield 75, 3))) rfl (by decide) (by decide) zin_4 (zl_f zo63 zw_163) tyX4_ok nmX4 rfl (tyX4_ok 1 (by decide))) <|
  zcons (a := (31, zi_il 3 32)) (zs_il_n (M := 63) (pc := 31) (zd_eq zk63 (by decide +kernel : decode cX6_end 31 = .ok (.iload_n 3, 1)))) <|
  zcons (a := (32, zi_ri)) (zs_ri (M := 63) (pc := 32) (zd_eq zk63 (by decide +kernel : decode cX6_end 32 = .ok (.ireturn, 1))) rfl) <| znil
theorem zS63 : ∀ pc, zm_Snd 63 pc (zm_lk2 zm_c63 pc) := zlk2 (zcons2 zS63_0 (znil2))
theorem zS64_0 : ∀ q ∈ zm_c64_0, zm_Snd 64 q.1 q.2 :=
  zcons (a := (0, zi_al 0 1)) (zs_al_n (M := 64) (pc := 0) (zd_eq zk64 (by decide +kernel : decode cX6_text 0 = .ok (.aload_n 0, 1)))) <|
  zcons (a := (1, zi_gr 6 5 4)) (zs_gr (M := 64) (pc := 1) (n := 0) (ci := 6) (k := 5) (C := RX6) (T := TX6) (N := 14) (zd_eq zk64 (by decide +kernel : decode cX6_text 1 = .ok (.getfield 41, 3))) rfl (by decide) (by decide) zin_6 (zl_f zo64 zw_238)) <|
  zcons (a := (4, zi_cv 47 0 5 7 0)) (zs_cv (M := 64) (pc := 4) (M' := 47) (k := 0) (kd := 0) (ci := 5) (q := (RX5, TX5, 6)) (zd_eq zk64 (by decide +kernel : decode cX6_text 4 = .ok (.invokevirtual 85, 3))) zWd47 (zl_m zo64 zy47 zw_295) (zl_i zy47 zw_296) (zl_e zy47 zw_297) (by decide) rfl (by rw [zo47])) <|
  zcons (a := (7, zi_al 0 8)) (zs_al_n (M := 64) (pc := 7) (zd_eq zk64 (by decide +kernel : decode cX6_text 7 = .ok (.aload_n 0, 1)))) <|
  zcons (a := (8, zi_gr 6 5 11)) (zs_gr (M := 64) (pc := 8) (n := 0) (ci := 6) (k := 5) (C := RX6) (T := TX6) (N := 14) (zd_eq zk64 (by decide +kernel : decode cX6_text 8 = .ok (.getfield 41, 3))) rfl (by decide) (by decide) zin_6 (zl_f zo64 zw_238)) <|
  zcons (a := (11, zi_gr 5 0 14)) (zs_gr (M := 64) (pc := 11) (n := 0) (ci := 5) (k := 0) (C := RX5) (T := TX5) (N := 6) (zd_eq zk64 (by decide +kernel : decode cX6_text 11 = .ok (.getfield 71, 3))) rfl (by decide) (by decide) zin_5 (zl_f zo64 zw_188)) <|
  zcons (a := (14, zi_k (.int 0) 15)) (zs_iconst (M := 64) (pc := 14) (zd_eq zk64 (by decide +kernel : decode cX6_text 14 = .ok (.iconst 0, 1))) (by decide)) <|
  zcons (a := (15, zi_pf 4 1 18)) (zs_pf (M := 64) (pc := 15) (ci := 4) (k := 1) (C := RX4) (T := TX4) (N := 6) (ty0 := tyX4) (zd_eq zk64 (by decide +kernel : decode cX6_text 15 = .ok (.putfield 75, 3))) rfl (by decide) (by decide) zin_4 (zl_f zo64 zw_163) tyX4_ok nmX4 rfl (tyX4_ok 1 (by decide))) <|
  zcons (a := (18, zi_al 0 19)) (zs_al_n (M := 64) (pc := 18) (zd_eq zk64 (by decide +kernel : decode cX6_text 18 = .ok (.aload_n 0, 1)))) <|
  zcons (a := (19, zi_al 0 20)) (zs_al_n (M := 64) (pc := 19) (zd_eq zk64 (by decide +kernel : decode cX6_text 19 = .ok (.aload_n 0, 1)))) <|
  zcons (a := (20, zi_gr 6 5 23)) (zs_gr (M := 64) (pc := 20) (n := 0) (ci := 6) (k := 5) (C := RX6) (T := TX6) (N := 14) (zd_eq zk64 (by decide +kernel : decode cX6_text 20 = .ok (.getfield 41, 3))) rfl (by decide) (by decide) zin_6 (zl_f zo64 zw_238)) <|
  zcons (a := (23, zi_gi 5 3 26)) (zs_gi (M := 64) (pc := 23) (n := 0) (ci := 5) (k := 3) (C := RX5) (T := TX5) (N := 6) (zd_eq zk64 (by decide +kernel : decode cX6_text 23 = .ok (.getfield 88, 3))) rfl (by decide) (by decide) zin_5 (zl_f zo64 zw_194)) <|
  zcons (a := (26, zi_pf 6 6 29)) (zs_pf (M := 64) (pc := 26) (ci := 6) (k := 6) (C := RX6) (T := TX6) (N := 14) (ty0 := tyX6) (zd_eq zk64 (by decide +kernel : decode cX6_text 26 = .ok (.putfield 91, 3))) rfl (by decide) (by decide) zin_6 (zl_f zo64 zw_239) tyX6_ok nmX6 rfl (tyX6_ok 6 (by decide))) <|
  zcons (a := (29, zi_al 0 30)) (zs_al_n (M := 64) (pc := 29) (zd_eq zk64 (by decide +kernel : decode cX6_text 29 = .ok (.aload_n 0, 1)))) <|
  zcons (a := (30, zi_gi 6 6 33)) (zs_gi (M := 64) (pc := 30) (n := 0) (ci := 6) (k := 6) (C := RX6) (T := TX6) (N := 14) (zd_eq zk64 (by decide +kernel : decode cX6_text 30 = .ok (.getfield 91, 3))) rfl (by decide) (by decide) zin_6 (zl_f zo64 zw_239)) <|
  zcons (a := (33, zi_b1 (fun x => x = 0) 47 36)) (zs_ifeq (M := 64) (pc := 33) (zd_eq zk64 (by decide +kernel : decode cX6_text 33 = .ok (.ifCond .eq 14, 3))) (by decide)) <|
  zcons (a := (36, zi_k (.int (-10)) 38)) (zs_bipush (M := 64) (pc := 36) (zd_eq zk64 (by decide +kernel : decode cX6_text 36 = .ok (.bipush (-10), 2))) (by decide)) <|
  zcons (a := (38, zi_al 0 39)) (zs_al_n (M := 64) (pc := 38) (zd_eq zk64 (by decide +kernel : decode cX6_text 38 = .ok (.aload_n 0, 1)))) <|
  zcons (a := (39, zi_gr 6 5 42)) (zs_gr (M := 64) (pc := 39) (n := 0) (ci := 6) (k := 5) (C := RX6) (T := TX6) (N := 14) (zd_eq zk64 (by decide +kernel : decode cX6_text 39 = .ok (.getfield 41, 3))) rfl (by decide) (by decide) zin_6 (zl_f zo64 zw_238)) <|
  zcons (a := (42, zi_gi 5 4 45)) (zs_gi (M := 64) (pc := 42) (n := 0) (ci := 5) (k := 4) (C := RX5) (T := TX5) (N := 6) (zd_eq zk64 (by decide +kernel : decode cX6_text 42 = .ok (.getfield 94, 3))) rfl (by decide) (by decide) zin_5 (zl_f zo64 zw_196)) <|
  zcons (a := (45, zi_bin (· - ·) 46)) (zs_isub (M := 64) (pc := 45) (zd_eq zk64 (by decide +kernel : decode cX6_text 45 = .ok (.isub, 1)))) <|
  zcons (a := (46, zi_ri)) (zs_ri (M := 64) (pc := 46) (zd_eq zk64 (by decide +kernel : decode cX6_text 46 = .ok (.ireturn, 1))) rfl) <|
  zcons (a := (47, zi_al 0 48)) (zs_al_n (M := 64) (pc := 47) (zd_eq zk64 (by decide +kernel : decode cX6_text 47 = .ok (.aload_n 0, 1)))) <|
  zcons (a := (48, zi_gr 6 0 51)) (zs_gr (M := 64) (pc := 48) (n := 0) (ci := 6) (k := 0) (C := RX6) (T := TX6) (N := 14) (zd_eq zk64 (by decide +kernel : decode cX6_text 48 = .ok (.getfield 10, 3))) rfl (by decide) (by decide) zin_6 (zl_f zo64 zw_233)) <| znil
theorem zS64_1 : ∀ q ∈ zm_c64_1, zm_Snd 64 q.1 q.2 :=
  zcons (a := (51, zi_al 0 52)) (zs_al_n (M := 64) (pc := 51) (zd_eq zk64 (by decide +kernel : decode cX6_text 51 = .ok (.aload_n 0, 1)))) <|
  zcons (a := (52, zi_gr 6 5 55)) (zs_gr (M := 64) (pc := 52) (n := 0) (ci := 6) (k := 5) (C := RX6) (T := TX6) (N := 14) (zd_eq zk64 (by decide +kernel : decode cX6_text 52 = .ok (.getfield 41, 3))) rfl (by decide) (by decide) zin_6 (zl_f zo64 zw_238)) <|
  zcons (a := (55, zi_gr 5 1 58)) (zs_gr (M := 64) (pc := 55) (n := 0) (ci := 5) (k := 1) (C := RX5) (T := TX5) (N := 6) (zd_eq zk64 (by decide +kernel : decode cX6_text 55 = .ok (.getfield 97, 3))) rfl (by decide) (by decide) zin_5 (zl_f zo64 zw_190)) <|
  zcons (a := (58, zi_cv 30 1 1 61 0)) (zs_cv (M := 64) (pc := 58) (M' := 30) (k := 1) (kd := 0) (ci := 1) (q := (RX1, TX1, 4)) (zd_eq zk64 (by decide +kernel : decode cX6_text 58 = .ok (.invokevirtual 100, 3))) zWd30 (zl_m zo64 zy30 zw_411) (zl_i zy30 zw_412) (zl_e zy30 zw_413) (by decide) rfl (by rw [zo30])) <|
  zcons (a := (61, zi_al 0 62)) (zs_al_n (M := 64) (pc := 61) (zd_eq zk64 (by decide +kernel : decode cX6_text 61 = .ok (.aload_n 0, 1)))) <|
  zcons (a := (62, zi_k (.int 0) 63)) (zs_iconst (M := 64) (pc := 62) (zd_eq zk64 (by decide +kernel : decode cX6_text 62 = .ok (.iconst 0, 1))) (by decide)) <|
  zcons (a := (63, zi_pf 6 9 66)) (zs_pf (M := 64) (pc := 63) (ci := 6) (k := 9) (C := RX6) (T := TX6) (N := 14) (ty0 := tyX6) (zd_eq zk64 (by decide +kernel : decode cX6_text 63 = .ok (.putfield 104, 3))) rfl (by decide) (by decide) zin_6 (zl_f zo64 zw_242) tyX6_ok nmX6 rfl (tyX6_ok 9 (by decide))) <|
  zcons (a := (66, zi_k (.int 0) 67)) (zs_iconst (M := 64) (pc := 66) (zd_eq zk64 (by decide +kernel : decode cX6_text 66 = .ok (.iconst 0, 1))) (by decide)) <|
  zcons (a := (67, zi_is 1 68)) (zs_is_n (M := 64) (pc := 67) (zd_eq zk64 (by decide +kernel : decode cX6_text 67 = .ok (.istore_n 1, 1))) (by decide +kernel) (by decide +kernel)) <|
  zcons (a := (68, zi_il 1 69)) (zs_il_n (M := 64) (pc := 68) (zd_eq zk64 (by decide +kernel : decode cX6_text 68 = .ok (.iload_n 1, 1)))) <|
  zcons (a := (69, zi_k (.int 2) 70)) (zs_iconst (M := 64) (pc := 69) (zd_eq zk64 (by decide +kernel : decode cX6_text 69 = .ok (.iconst 2, 1))) (by decide)) <|
  zcons (a := (70, zi_b2 (fun x y => y ≤ x) 86 73)) (zs_icmpge (M := 64) (pc := 70) (zd_eq zk64 (by decide +kernel : decode cX6_text 70 = .ok (.if_icmp .ge 16, 3))) (by decide)) <|
  zcons (a := (73, zi_al 0 74)) (zs_al_n (M := 64) (pc := 73) (zd_eq zk64 (by decide +kernel : decode cX6_text 73 = .ok (.aload_n 0, 1)))) <|
  zcons (a := (74, zi_gr 6 11 77)) (zs_gr (M := 64) (pc := 74) (n := 0) (ci := 6) (k := 11) (C := RX6) (T := TX6) (N := 14) (zd_eq zk64 (by decide +kernel : decode cX6_text 74 = .ok (.getfield 56, 3))) rfl (by decide) (by decide) zin_6 (zl_f zo64 zw_244)) <|
  zcons (a := (77, zi_il 1 78)) (zs_il_n (M := 64) (pc := 77) (zd_eq zk64 (by decide +kernel : decode cX6_text 77 = .ok (.iload_n 1, 1)))) <|
  zcons (a := (78, zi_k (.int 0) 79)) (zs_iconst (M := 64) (pc := 78) (zd_eq zk64 (by decide +kernel : decode cX6_text 78 = .ok (.iconst 0, 1))) (by decide)) <|
  zcons (a := (79, zi_ast 2 (vp_nar .boolean) 80)) (zs_zast (M := 64) (pc := 79) (zd_eq zk64 (by decide +kernel : decode cX6_text 79 = .ok (.bastore, 1)))) <|
  zcons (a := (80, zi_inc 1 1 83)) (zs_inc (M := 64) (pc := 80) (zd_eq zk64 (by decide +kernel : decode cX6_text 80 = .ok (.iinc 1 1, 3))) (by decide) (by decide +kernel) (by decide +kernel)) <|
  zcons (a := (83, zi_go 68)) (zs_goto (M := 64) (pc := 83) (zd_eq zk64 (by decide +kernel : decode cX6_text 83 = .ok (.goto (-15), 3))) (by decide)) <|
  zcons (a := (86, zi_al 0 87)) (zs_al_n (M := 64) (pc := 86) (zd_eq zk64 (by decide +kernel : decode cX6_text 86 = .ok (.aload_n 0, 1)))) <|
  zcons (a := (87, zi_gr 6 5 90)) (zs_gr (M := 64) (pc := 87) (n := 0) (ci := 6) (k := 5) (C := RX6) (T := TX6) (N := 14) (zd_eq zk64 (by decide +kernel : decode cX6_text 87 = .ok (.getfield 41, 3))) rfl (by decide) (by decide) zin_6 (zl_f zo64 zw_238)) <|
  zcons (a := (90, zi_gi 5 2 93)) (zs_gi (M := 64) (pc := 90) (n := 0) (ci := 5) (k := 2) (C := RX5) (T := TX5) (N := 6) (zd_eq zk64 (by decide +kernel : decode cX6_text 90 = .ok (.getfield 107, 3))) rfl (by decide) (by decide) zin_5 (zl_f zo64 zw_192)) <|
  zcons (a := (93, zi_ri)) (zs_ri (M := 64) (pc := 93) (zd_eq zk64 (by decide +kernel : decode cX6_text 93 = .ok (.ireturn, 1))) rfl) <| znil
theorem zS64 : ∀ pc, zm_Snd 64 pc (zm_lk2 zm_c64 pc) := zlk2 (zcons2 zS64_0 (zcons2 zS64_1 (znil2)))
theorem zS65_0 : ∀ q ∈ zm_c65_0, zm_Snd 65 q.1 q.2 :=
  zcons (a := (0, zi_al 0 1)) (zs_al_n (M := 65) (pc := 0) (zd_eq zk65 (by decide +kernel : decode cX6_fault 0 = .ok (.aload_n 0, 1)))) <|
  zcons (a := (1, zi_gi 6 6 4)) (zs_gi (M := 65) (pc := 1) (n := 0) (ci := 6) (k := 6) (C := RX6) (T := TX6) (N := 14) (zd_eq zk65 (by decide +kernel : decode cX6_fault 1 = .ok (.getfield 91, 3))) rfl (by decide) (by decide) zin_6 (zl_f zo65 zw_239)) <|
  zcons (a := (4, zi_ri)) (zs_ri (M := 65) (pc := 4) (zd_eq zk65 (by decide +kernel : decode cX6_fault 4 = .ok (.ireturn, 1))) rfl) <| znil
theorem zS65 : ∀ pc, zm_Snd 65 pc (zm_lk2 zm_c65 pc) := zlk2 (zcons2 zS65_0 (znil2))
theorem zS66_0 : ∀ q ∈ zm_c66_0, zm_Snd 66 q.1 q.2 :=
  zcons (a := (0, zi_il 1 1)) (zs_il_n (M := 66) (pc := 0) (zd_eq zk66 (by decide +kernel : decode cX6_rule 0 = .ok (.iload_n 1, 1)))) <|
  zcons (a := (1, zi_ts 0 5 [40, 51, 59, 70, 81, 92] 103)) (zs_ts (M := 66) (pc := 1) (zd_eq zk66 (by decide +kernel : decode cX6_rule 1 = .ok (.tableswitch 102 0 5 #[39, 50, 58, 69, 80, 91], 39))) (by decide) (zts_dec (by decide +kernel))) <|
  zcons (a := (40, zi_al 0 41)) (zs_al_n (M := 66) (pc := 40) (zd_eq zk66 (by decide +kernel : decode cX6_rule 40 = .ok (.aload_n 0, 1)))) <|
  zcons (a := (41, zi_gr 6 0 44)) (zs_gr (M := 66) (pc := 41) (n := 0) (ci := 6) (k := 0) (C := RX6) (T := TX6) (N := 14) (zd_eq zk66 (by decide +kernel : decode cX6_rule 41 = .ok (.getfield 10, 3))) rfl (by decide) (by decide) zin_6 (zl_f zo66 zw_233)) <|
  zcons (a := (44, zi_gr 1 0 47)) (zs_gr (M := 66) (pc := 44) (n := 0) (ci := 1) (k := 0) (C := RX1) (T := TX1) (N := 4) (zd_eq zk66 (by decide +kernel : decode cX6_rule 44 = .ok (.getfield 110, 3))) rfl (by decide) (by decide) zin_1 (zl_f zo66 zw_123)) <|
  zcons (a := (47, zi_gi 2 1 50)) (zs_gi (M := 66) (pc := 47) (n := 0) (ci := 2) (k := 1) (C := RX2) (T := TX2) (N := 2) (zd_eq zk66 (by decide +kernel : decode cX6_rule 47 = .ok (.getfield 114, 3))) rfl (by decide) (by decide) zin_2 (zl_f zo66 zw_112)) <|
  zcons (a := (50, zi_ri)) (zs_ri (M := 66) (pc := 50) (zd_eq zk66 (by decide +kernel : decode cX6_rule 50 = .ok (.ireturn, 1))) rfl) <|
  zcons (a := (51, zi_al 0 52)) (zs_al_n (M := 66) (pc := 51) (zd_eq zk66 (by decide +kernel : decode cX6_rule 51 = .ok (.aload_n 0, 1)))) <|
  zcons (a := (52, zi_gr 6 0 55)) (zs_gr (M := 66) (pc := 52) (n := 0) (ci := 6) (k := 0) (C := RX6) (T := TX6) (N := 14) (zd_eq zk66 (by decide +kernel : decode cX6_rule 52 = .ok (.getfield 10, 3))) rfl (by decide) (by decide) zin_6 (zl_f zo66 zw_233)) <|
  zcons (a := (55, zi_gi 1 3 58)) (zs_gi (M := 66) (pc := 55) (n := 0) (ci := 1) (k := 3) (C := RX1) (T := TX1) (N := 4) (zd_eq zk66 (by decide +kernel : decode cX6_rule 55 = .ok (.getfield 117, 3))) rfl (by decide) (by decide) zin_1 (zl_f zo66 zw_131)) <|
  zcons (a := (58, zi_ri)) (zs_ri (M := 66) (pc := 58) (zd_eq zk66 (by decide +kernel : decode cX6_rule 58 = .ok (.ireturn, 1))) rfl) <|
  zcons (a := (59, zi_al 0 60)) (zs_al_n (M := 66) (pc := 59) (zd_eq zk66 (by decide +kernel : decode cX6_rule 59 = .ok (.aload_n 0, 1)))) <|
  zcons (a := (60, zi_gr 6 0 63)) (zs_gr (M := 66) (pc := 60) (n := 0) (ci := 6) (k := 0) (C := RX6) (T := TX6) (N := 14) (zd_eq zk66 (by decide +kernel : decode cX6_rule 60 = .ok (.getfield 10, 3))) rfl (by decide) (by decide) zin_6 (zl_f zo66 zw_233)) <|
  zcons (a := (63, zi_gr 1 0 66)) (zs_gr (M := 66) (pc := 63) (n := 0) (ci := 1) (k := 0) (C := RX1) (T := TX1) (N := 4) (zd_eq zk66 (by decide +kernel : decode cX6_rule 63 = .ok (.getfield 110, 3))) rfl (by decide) (by decide) zin_1 (zl_f zo66 zw_123)) <|
  zcons (a := (66, zi_cv 22 0 2 69 1)) (zs_cv (M := 66) (pc := 66) (M' := 22) (k := 0) (kd := 1) (ci := 2) (q := (RX2, TX2, 2)) (zd_eq zk66 (by decide +kernel : decode cX6_rule 66 = .ok (.invokevirtual 120, 3))) zWd22 (zl_m zo66 zy22 zw_434) (zl_i zy22 zw_435) (zl_e zy22 zw_436) (by decide) rfl (by rw [zo22])) <|
  zcons (a := (69, zi_ri)) (zs_ri (M := 66) (pc := 69) (zd_eq zk66 (by decide +kernel : decode cX6_rule 69 = .ok (.ireturn, 1))) rfl) <|
  zcons (a := (70, zi_al 0 71)) (zs_al_n (M := 66) (pc := 70) (zd_eq zk66 (by decide +kernel : decode cX6_rule 70 = .ok (.aload_n 0, 1)))) <|
  zcons (a := (71, zi_gr 6 0 74)) (zs_gr (M := 66) (pc := 71) (n := 0) (ci := 6) (k := 0) (C := RX6) (T := TX6) (N := 14) (zd_eq zk66 (by decide +kernel : decode cX6_rule 71 = .ok (.getfield 10, 3))) rfl (by decide) (by decide) zin_6 (zl_f zo66 zw_233)) <|
  zcons (a := (74, zi_gr 1 0 77)) (zs_gr (M := 66) (pc := 74) (n := 0) (ci := 1) (k := 0) (C := RX1) (T := TX1) (N := 4) (zd_eq zk66 (by decide +kernel : decode cX6_rule 74 = .ok (.getfield 110, 3))) rfl (by decide) (by decide) zin_1 (zl_f zo66 zw_123)) <|
  zcons (a := (77, zi_cv 23 0 2 80 1)) (zs_cv (M := 66) (pc := 77) (M' := 23) (k := 0) (kd := 1) (ci := 2) (q := (RX2, TX2, 2)) (zd_eq zk66 (by decide +kernel : decode cX6_rule 77 = .ok (.invokevirtual 124, 3))) zWd23 (zl_m zo66 zy23 zw_442) (zl_i zy23 zw_443) (zl_e zy23 zw_444) (by decide) rfl (by rw [zo23])) <|
  zcons (a := (80, zi_ri)) (zs_ri (M := 66) (pc := 80) (zd_eq zk66 (by decide +kernel : decode cX6_rule 80 = .ok (.ireturn, 1))) rfl) <|
  zcons (a := (81, zi_al 0 82)) (zs_al_n (M := 66) (pc := 81) (zd_eq zk66 (by decide +kernel : decode cX6_rule 81 = .ok (.aload_n 0, 1)))) <|
  zcons (a := (82, zi_gr 6 0 85)) (zs_gr (M := 66) (pc := 82) (n := 0) (ci := 6) (k := 0) (C := RX6) (T := TX6) (N := 14) (zd_eq zk66 (by decide +kernel : decode cX6_rule 82 = .ok (.getfield 10, 3))) rfl (by decide) (by decide) zin_6 (zl_f zo66 zw_233)) <|
  zcons (a := (85, zi_gr 1 0 88)) (zs_gr (M := 66) (pc := 85) (n := 0) (ci := 1) (k := 0) (C := RX1) (T := TX1) (N := 4) (zd_eq zk66 (by decide +kernel : decode cX6_rule 85 = .ok (.getfield 110, 3))) rfl (by decide) (by decide) zin_1 (zl_f zo66 zw_123)) <| znil
theorem zS66_1 : ∀ q ∈ zm_c66_1, zm_Snd 66 q.1 q.2 :=
  zcons (a := (88, zi_cv 24 0 2 91 1)) (zs_cv (M := 66) (pc := 88) (M' := 24) (k := 0) (kd := 1) (ci := 2) (q := (RX2, TX2, 2)) (zd_eq zk66 (by decide +kernel : decode cX6_rule 88 = .ok (.invokevirtual 127, 3))) zWd24 (zl_m zo66 zy24 zw_447) (zl_i zy24 zw_448) (zl_e zy24 zw_449) (by decide) rfl (by rw [zo24])) <|
  zcons (a := (91, zi_ri)) (zs_ri (M := 66) (pc := 91) (zd_eq zk66 (by decide +kernel : decode cX6_rule 91 = .ok (.ireturn, 1))) rfl) <|
  zcons (a := (92, zi_al 0 93)) (zs_al_n (M := 66) (pc := 92) (zd_eq zk66 (by decide +kernel : decode cX6_rule 92 = .ok (.aload_n 0, 1)))) <|
  zcons (a := (93, zi_gr 6 0 96)) (zs_gr (M := 66) (pc := 93) (n := 0) (ci := 6) (k := 0) (C := RX6) (T := TX6) (N := 14) (zd_eq zk66 (by decide +kernel : decode cX6_rule 93 = .ok (.getfield 10, 3))) rfl (by decide) (by decide) zin_6 (zl_f zo66 zw_233)) <|
  zcons (a := (96, zi_gr 1 0 99)) (zs_gr (M := 66) (pc := 96) (n := 0) (ci := 1) (k := 0) (C := RX1) (T := TX1) (N := 4) (zd_eq zk66 (by decide +kernel : decode cX6_rule 96 = .ok (.getfield 110, 3))) rfl (by decide) (by decide) zin_1 (zl_f zo66 zw_123)) <|
  zcons (a := (99, zi_cv 26 0 2 102 1)) (zs_cv (M := 66) (pc := 99) (M' := 26) (k := 0) (kd := 1) (ci := 2) (q := (RX2, TX2, 2)) (zd_eq zk66 (by decide +kernel : decode cX6_rule 99 = .ok (.invokevirtual 130, 3))) zWd26 (zl_m zo66 zy26 zw_451) (zl_i zy26 zw_452) (zl_e zy26 zw_453) (by decide) rfl (by rw [zo26])) <|
  zcons (a := (102, zi_ri)) (zs_ri (M := 66) (pc := 102) (zd_eq zk66 (by decide +kernel : decode cX6_rule 102 = .ok (.ireturn, 1))) rfl) <|
  zcons (a := (103, zi_k (.int (-1)) 104)) (zs_iconst (M := 66) (pc := 103) (zd_eq zk66 (by decide +kernel : decode cX6_rule 103 = .ok (.iconst (-1), 1))) (by decide)) <|
  zcons (a := (104, zi_ri)) (zs_ri (M := 66) (pc := 104) (zd_eq zk66 (by decide +kernel : decode cX6_rule 104 = .ok (.ireturn, 1))) rfl) <| znil
theorem zS66 : ∀ pc, zm_Snd 66 pc (zm_lk2 zm_c66 pc) := zlk2 (zcons2 zS66_0 (zcons2 zS66_1 (znil2)))
theorem zS67_0 : ∀ q ∈ zm_c67_0, zm_Snd 67 q.1 q.2 :=
  zcons (a := (0, zi_al 0 1)) (zs_al_n (M := 67) (pc := 0) (zd_eq zk67 (by decide +kernel : decode cX6_figure 0 = .ok (.aload_n 0, 1)))) <|
  zcons (a := (1, zi_il 1 2)) (zs_il_n (M := 67) (pc := 1) (zd_eq zk67 (by decide +kernel : decode cX6_figure 1 = .ok (.iload_n 1, 1)))) <|
  zcons (a := (2, zi_cv 106 1 6 5 1)) (zs_cv (M := 67) (pc := 2) (M' := 106) (k := 1) (kd := 1) (ci := 6) (q := (RX6, TX6, 14)) (zd_eq zk67 (by decide +kernel : decode cX6_figure 2 = .ok (.invokevirtual 133, 3))) zWd106 (zl_m zo67 zy106 zw_459) (zl_i zy106 zw_461) (zl_e zy106 zw_9) (by decide) rfl (by rw [zo106])) <|
  zcons (a := (5, zi_b1 (fun x => x = 0) 16 8)) (zs_ifeq (M := 67) (pc := 5) (zd_eq zk67 (by decide +kernel : decode cX6_figure 5 = .ok (.ifCond .eq 11, 3))) (by decide)) <|
  zcons (a := (8, zi_il 2 9)) (zs_il_n (M := 67) (pc := 8) (zd_eq zk67 (by decide +kernel : decode cX6_figure 8 = .ok (.iload_n 2, 1)))) <|
  zcons (a := (9, zi_k (.int 4) 10)) (zs_iconst (M := 67) (pc := 9) (zd_eq zk67 (by decide +kernel : decode cX6_figure 9 = .ok (.iconst 4, 1))) (by decide)) <|
  zcons (a := (10, zi_cs 105 2 13 1)) (zs_cs (M := 67) (pc := 10) (M' := 105) (k := 2) (kd := 1) (zd_eq zk67 (by decide +kernel : decode cX6_figure 10 = .ok (.invokestatic 67, 3))) zWd105 (zl_m zo67 zy105 zw_280) (zl_s zy105 zw_281)) <|
  zcons (a := (13, zi_b1 (fun x => ¬ x = 0) 18 16)) (zs_ifne (M := 67) (pc := 13) (zd_eq zk67 (by decide +kernel : decode cX6_figure 13 = .ok (.ifCond .ne 5, 3))) (by decide)) <|
  zcons (a := (16, zi_k (.int (-1)) 17)) (zs_iconst (M := 67) (pc := 16) (zd_eq zk67 (by decide +kernel : decode cX6_figure 16 = .ok (.iconst (-1), 1))) (by decide)) <|
  zcons (a := (17, zi_ri)) (zs_ri (M := 67) (pc := 17) (zd_eq zk67 (by decide +kernel : decode cX6_figure 17 = .ok (.ireturn, 1))) rfl) <|
  zcons (a := (18, zi_al 0 19)) (zs_al_n (M := 67) (pc := 18) (zd_eq zk67 (by decide +kernel : decode cX6_figure 18 = .ok (.aload_n 0, 1)))) <|
  zcons (a := (19, zi_gr 6 0 22)) (zs_gr (M := 67) (pc := 19) (n := 0) (ci := 6) (k := 0) (C := RX6) (T := TX6) (N := 14) (zd_eq zk67 (by decide +kernel : decode cX6_figure 19 = .ok (.getfield 10, 3))) rfl (by decide) (by decide) zin_6 (zl_f zo67 zw_233)) <|
  zcons (a := (22, zi_gr 1 0 25)) (zs_gr (M := 67) (pc := 22) (n := 0) (ci := 1) (k := 0) (C := RX1) (T := TX1) (N := 4) (zd_eq zk67 (by decide +kernel : decode cX6_figure 22 = .ok (.getfield 110, 3))) rfl (by decide) (by decide) zin_1 (zl_f zo67 zw_123)) <|
  zcons (a := (25, zi_gr 2 0 28)) (zs_gr (M := 67) (pc := 25) (n := 0) (ci := 2) (k := 0) (C := RX2) (T := TX2) (N := 2) (zd_eq zk67 (by decide +kernel : decode cX6_figure 25 = .ok (.getfield 137, 3))) rfl (by decide) (by decide) zin_2 (zl_f zo67 zw_108)) <|
  zcons (a := (28, zi_il 1 29)) (zs_il_n (M := 67) (pc := 28) (zd_eq zk67 (by decide +kernel : decode cX6_figure 28 = .ok (.iload_n 1, 1)))) <|
  zcons (a := (29, zi_qld 3 30)) (zs_qld (M := 67) (pc := 29) (t := 3) rfl (zd_eq zk67 (by decide +kernel : decode cX6_figure 29 = .ok (.aaload, 1)))) <|
  zcons (a := (30, zi_as 3 31)) (zs_as_n (M := 67) (pc := 30) (zd_eq zk67 (by decide +kernel : decode cX6_figure 30 = .ok (.astore_n 3, 1))) (by decide +kernel) (by decide +kernel)) <|
  zcons (a := (31, zi_il 2 32)) (zs_il_n (M := 67) (pc := 31) (zd_eq zk67 (by decide +kernel : decode cX6_figure 31 = .ok (.iload_n 2, 1)))) <|
  zcons (a := (32, zi_k (.int 3) 33)) (zs_iconst (M := 67) (pc := 32) (zd_eq zk67 (by decide +kernel : decode cX6_figure 32 = .ok (.iconst 3, 1))) (by decide)) <|
  zcons (a := (33, zi_b2 (fun x y => ¬ x = y) 56 36)) (zs_icmpne (M := 67) (pc := 33) (zd_eq zk67 (by decide +kernel : decode cX6_figure 33 = .ok (.if_icmp .ne 23, 3))) (by decide)) <|
  zcons (a := (36, zi_al 3 37)) (zs_al_n (M := 67) (pc := 36) (zd_eq zk67 (by decide +kernel : decode cX6_figure 36 = .ok (.aload_n 3, 1)))) <|
  zcons (a := (37, zi_al 0 38)) (zs_al_n (M := 67) (pc := 37) (zd_eq zk67 (by decide +kernel : decode cX6_figure 37 = .ok (.aload_n 0, 1)))) <|
  zcons (a := (38, zi_gr 6 0 41)) (zs_gr (M := 67) (pc := 38) (n := 0) (ci := 6) (k := 0) (C := RX6) (T := TX6) (N := 14) (zd_eq zk67 (by decide +kernel : decode cX6_figure 38 = .ok (.getfield 10, 3))) rfl (by decide) (by decide) zin_6 (zl_f zo67 zw_233)) <|
  zcons (a := (41, zi_gr 1 1 44)) (zs_gr (M := 67) (pc := 41) (n := 0) (ci := 1) (k := 1) (C := RX1) (T := TX1) (N := 4) (zd_eq zk67 (by decide +kernel : decode cX6_figure 41 = .ok (.getfield 141, 3))) rfl (by decide) (by decide) zin_1 (zl_f zo67 zw_126)) <| znil
theorem zS67_1 : ∀ q ∈ zm_c67_1, zm_Snd 67 q.1 q.2 :=
  zcons (a := (44, zi_al 0 45)) (zs_al_n (M := 67) (pc := 44) (zd_eq zk67 (by decide +kernel : decode cX6_figure 44 = .ok (.aload_n 0, 1)))) <|
  zcons (a := (45, zi_gr 6 0 48)) (zs_gr (M := 67) (pc := 45) (n := 0) (ci := 6) (k := 0) (C := RX6) (T := TX6) (N := 14) (zd_eq zk67 (by decide +kernel : decode cX6_figure 45 = .ok (.getfield 10, 3))) rfl (by decide) (by decide) zin_6 (zl_f zo67 zw_233)) <|
  zcons (a := (48, zi_cv 31 0 1 51 1)) (zs_cv (M := 67) (pc := 48) (M' := 31) (k := 0) (kd := 1) (ci := 1) (q := (RX1, TX1, 4)) (zd_eq zk67 (by decide +kernel : decode cX6_figure 48 = .ok (.invokevirtual 144, 3))) zWd31 (zl_m zo67 zy31 zw_463) (zl_i zy31 zw_464) (zl_e zy31 zw_465) (by decide) rfl (by rw [zo31])) <|
  zcons (a := (51, zi_ald 0 52)) (zs_iald (M := 67) (pc := 51) (zd_eq zk67 (by decide +kernel : decode cX6_figure 51 = .ok (.iaload, 1)))) <|
  zcons (a := (52, zi_cv 15 1 0 55 1)) (zs_cv (M := 67) (pc := 52) (M' := 15) (k := 1) (kd := 1) (ci := 0) (q := (RX0, TX0, 3)) (zd_eq zk67 (by decide +kernel : decode cX6_figure 52 = .ok (.invokevirtual 147, 3))) zWd15 (zl_m zo67 zy15 zw_467) (zl_i zy15 zw_468) (zl_e zy15 zw_469) (by decide) rfl (by rw [zo15])) <|
  zcons (a := (55, zi_ri)) (zs_ri (M := 67) (pc := 55) (zd_eq zk67 (by decide +kernel : decode cX6_figure 55 = .ok (.ireturn, 1))) rfl) <|
  zcons (a := (56, zi_il 2 57)) (zs_il_n (M := 67) (pc := 56) (zd_eq zk67 (by decide +kernel : decode cX6_figure 56 = .ok (.iload_n 2, 1)))) <|
  zcons (a := (57, zi_k (.int 4) 58)) (zs_iconst (M := 67) (pc := 57) (zd_eq zk67 (by decide +kernel : decode cX6_figure 57 = .ok (.iconst 4, 1))) (by decide)) <|
  zcons (a := (58, zi_b2 (fun x y => ¬ x = y) 84 61)) (zs_icmpne (M := 67) (pc := 58) (zd_eq zk67 (by decide +kernel : decode cX6_figure 58 = .ok (.if_icmp .ne 26, 3))) (by decide)) <|
  zcons (a := (61, zi_k (.int 20) 63)) (zs_bipush (M := 67) (pc := 61) (zd_eq zk67 (by decide +kernel : decode cX6_figure 61 = .ok (.bipush 20, 2))) (by decide)) <|
  zcons (a := (63, zi_al 3 64)) (zs_al_n (M := 67) (pc := 63) (zd_eq zk67 (by decide +kernel : decode cX6_figure 63 = .ok (.aload_n 3, 1)))) <|
  zcons (a := (64, zi_al 0 65)) (zs_al_n (M := 67) (pc := 64) (zd_eq zk67 (by decide +kernel : decode cX6_figure 64 = .ok (.aload_n 0, 1)))) <|
  zcons (a := (65, zi_gr 6 0 68)) (zs_gr (M := 67) (pc := 65) (n := 0) (ci := 6) (k := 0) (C := RX6) (T := TX6) (N := 14) (zd_eq zk67 (by decide +kernel : decode cX6_figure 65 = .ok (.getfield 10, 3))) rfl (by decide) (by decide) zin_6 (zl_f zo67 zw_233)) <|
  zcons (a := (68, zi_gr 1 2 71)) (zs_gr (M := 67) (pc := 68) (n := 0) (ci := 1) (k := 2) (C := RX1) (T := TX1) (N := 4) (zd_eq zk67 (by decide +kernel : decode cX6_figure 68 = .ok (.getfield 151, 3))) rfl (by decide) (by decide) zin_1 (zl_f zo67 zw_129)) <|
  zcons (a := (71, zi_al 0 72)) (zs_al_n (M := 67) (pc := 71) (zd_eq zk67 (by decide +kernel : decode cX6_figure 71 = .ok (.aload_n 0, 1)))) <|
  zcons (a := (72, zi_gr 6 0 75)) (zs_gr (M := 67) (pc := 72) (n := 0) (ci := 6) (k := 0) (C := RX6) (T := TX6) (N := 14) (zd_eq zk67 (by decide +kernel : decode cX6_figure 72 = .ok (.getfield 10, 3))) rfl (by decide) (by decide) zin_6 (zl_f zo67 zw_233)) <|
  zcons (a := (75, zi_cv 31 0 1 78 1)) (zs_cv (M := 67) (pc := 75) (M' := 31) (k := 0) (kd := 1) (ci := 1) (q := (RX1, TX1, 4)) (zd_eq zk67 (by decide +kernel : decode cX6_figure 75 = .ok (.invokevirtual 144, 3))) zWd31 (zl_m zo67 zy31 zw_463) (zl_i zy31 zw_464) (zl_e zy31 zw_465) (by decide) rfl (by rw [zo31])) <|
  zcons (a := (78, zi_ald 0 79)) (zs_iald (M := 67) (pc := 78) (zd_eq zk67 (by decide +kernel : decode cX6_figure 78 = .ok (.iaload, 1)))) <|
  zcons (a := (79, zi_cv 16 1 0 82 1)) (zs_cv (M := 67) (pc := 79) (M' := 16) (k := 1) (kd := 1) (ci := 0) (q := (RX0, TX0, 3)) (zd_eq zk67 (by decide +kernel : decode cX6_figure 79 = .ok (.invokevirtual 154, 3))) zWd16 (zl_m zo67 zy16 zw_471) (zl_i zy16 zw_472) (zl_e zy16 zw_473) (by decide) rfl (by rw [zo16])) <|
  zcons (a := (82, zi_bin (· + ·) 83)) (zs_iadd (M := 67) (pc := 82) (zd_eq zk67 (by decide +kernel : decode cX6_figure 82 = .ok (.iadd, 1)))) <|
  zcons (a := (83, zi_ri)) (zs_ri (M := 67) (pc := 83) (zd_eq zk67 (by decide +kernel : decode cX6_figure 83 = .ok (.ireturn, 1))) rfl) <|
  zcons (a := (84, zi_al 3 85)) (zs_al_n (M := 67) (pc := 84) (zd_eq zk67 (by decide +kernel : decode cX6_figure 84 = .ok (.aload_n 3, 1)))) <|
  zcons (a := (85, zi_il 2 86)) (zs_il_n (M := 67) (pc := 85) (zd_eq zk67 (by decide +kernel : decode cX6_figure 85 = .ok (.iload_n 2, 1)))) <|
  zcons (a := (86, zi_cv 11 1 0 89 1)) (zs_cv (M := 67) (pc := 86) (M' := 11) (k := 1) (kd := 1) (ci := 0) (q := (RX0, TX0, 3)) (zd_eq zk67 (by decide +kernel : decode cX6_figure 86 = .ok (.invokevirtual 157, 3))) zWd11 (zl_m zo67 zy11 zw_475) (zl_i zy11 zw_476) (zl_e zy11 zw_477) (by decide) rfl (by rw [zo11])) <| znil
theorem zS67_2 : ∀ q ∈ zm_c67_2, zm_Snd 67 q.1 q.2 :=
  zcons (a := (89, zi_ri)) (zs_ri (M := 67) (pc := 89) (zd_eq zk67 (by decide +kernel : decode cX6_figure 89 = .ok (.ireturn, 1))) rfl) <| znil
theorem zS67 : ∀ pc, zm_Snd 67 pc (zm_lk2 zm_c67 pc) := zlk2 (zcons2 zS67_0 (zcons2 zS67_1 (zcons2 zS67_2 (znil2))))
theorem zS68_0 : ∀ q ∈ zm_c68_0, zm_Snd 68 q.1 q.2 :=
  zcons (a := (0, zi_il 1 1)) (zs_il_n (M := 68) (pc := 0) (zd_eq zk68 (by decide +kernel : decode cX6_week 0 = .ok (.iload_n 1, 1)))) <|
  zcons (a := (1, zi_k (.int 6) 3)) (zs_bipush (M := 68) (pc := 1) (zd_eq zk68 (by decide +kernel : decode cX6_week 1 = .ok (.bipush 6, 2))) (by decide)) <|
  zcons (a := (3, zi_cs 105 2 6 1)) (zs_cs (M := 68) (pc := 3) (M' := 105) (k := 2) (kd := 1) (zd_eq zk68 (by decide +kernel : decode cX6_week 3 = .ok (.invokestatic 67, 3))) zWd105 (zl_m zo68 zy105 zw_280) (zl_s zy105 zw_281)) <|
  zcons (a := (6, zi_b1 (fun x => x = 0) 17 9)) (zs_ifeq (M := 68) (pc := 6) (zd_eq zk68 (by decide +kernel : decode cX6_week 6 = .ok (.ifCond .eq 11, 3))) (by decide)) <|
  zcons (a := (9, zi_il 2 10)) (zs_il_n (M := 68) (pc := 9) (zd_eq zk68 (by decide +kernel : decode cX6_week 9 = .ok (.iload_n 2, 1)))) <|
  zcons (a := (10, zi_k (.int 1) 11)) (zs_iconst (M := 68) (pc := 10) (zd_eq zk68 (by decide +kernel : decode cX6_week 10 = .ok (.iconst 1, 1))) (by decide)) <|
  zcons (a := (11, zi_cs 105 2 14 1)) (zs_cs (M := 68) (pc := 11) (M' := 105) (k := 2) (kd := 1) (zd_eq zk68 (by decide +kernel : decode cX6_week 11 = .ok (.invokestatic 67, 3))) zWd105 (zl_m zo68 zy105 zw_280) (zl_s zy105 zw_281)) <|
  zcons (a := (14, zi_b1 (fun x => ¬ x = 0) 19 17)) (zs_ifne (M := 68) (pc := 14) (zd_eq zk68 (by decide +kernel : decode cX6_week 14 = .ok (.ifCond .ne 5, 3))) (by decide)) <|
  zcons (a := (17, zi_k (.int (-1)) 18)) (zs_iconst (M := 68) (pc := 17) (zd_eq zk68 (by decide +kernel : decode cX6_week 17 = .ok (.iconst (-1), 1))) (by decide)) <|
  zcons (a := (18, zi_ri)) (zs_ri (M := 68) (pc := 18) (zd_eq zk68 (by decide +kernel : decode cX6_week 18 = .ok (.ireturn, 1))) rfl) <|
  zcons (a := (19, zi_il 2 20)) (zs_il_n (M := 68) (pc := 19) (zd_eq zk68 (by decide +kernel : decode cX6_week 19 = .ok (.iload_n 2, 1)))) <|
  zcons (a := (20, zi_b1 (fun x => ¬ x = 0) 35 23)) (zs_ifne (M := 68) (pc := 20) (zd_eq zk68 (by decide +kernel : decode cX6_week 20 = .ok (.ifCond .ne 15, 3))) (by decide)) <|
  zcons (a := (23, zi_al 0 24)) (zs_al_n (M := 68) (pc := 23) (zd_eq zk68 (by decide +kernel : decode cX6_week 23 = .ok (.aload_n 0, 1)))) <|
  zcons (a := (24, zi_gr 6 0 27)) (zs_gr (M := 68) (pc := 24) (n := 0) (ci := 6) (k := 0) (C := RX6) (T := TX6) (N := 14) (zd_eq zk68 (by decide +kernel : decode cX6_week 24 = .ok (.getfield 10, 3))) rfl (by decide) (by decide) zin_6 (zl_f zo68 zw_233)) <|
  zcons (a := (27, zi_gr 1 1 30)) (zs_gr (M := 68) (pc := 27) (n := 0) (ci := 1) (k := 1) (C := RX1) (T := TX1) (N := 4) (zd_eq zk68 (by decide +kernel : decode cX6_week 27 = .ok (.getfield 141, 3))) rfl (by decide) (by decide) zin_1 (zl_f zo68 zw_126)) <|
  zcons (a := (30, zi_il 1 31)) (zs_il_n (M := 68) (pc := 30) (zd_eq zk68 (by decide +kernel : decode cX6_week 30 = .ok (.iload_n 1, 1)))) <|
  zcons (a := (31, zi_ald 0 32)) (zs_iald (M := 68) (pc := 31) (zd_eq zk68 (by decide +kernel : decode cX6_week 31 = .ok (.iaload, 1)))) <|
  zcons (a := (32, zi_go 44)) (zs_goto (M := 68) (pc := 32) (zd_eq zk68 (by decide +kernel : decode cX6_week 32 = .ok (.goto 12, 3))) (by decide)) <|
  zcons (a := (35, zi_al 0 36)) (zs_al_n (M := 68) (pc := 35) (zd_eq zk68 (by decide +kernel : decode cX6_week 35 = .ok (.aload_n 0, 1)))) <|
  zcons (a := (36, zi_gr 6 0 39)) (zs_gr (M := 68) (pc := 36) (n := 0) (ci := 6) (k := 0) (C := RX6) (T := TX6) (N := 14) (zd_eq zk68 (by decide +kernel : decode cX6_week 36 = .ok (.getfield 10, 3))) rfl (by decide) (by decide) zin_6 (zl_f zo68 zw_233)) <|
  zcons (a := (39, zi_gr 1 2 42)) (zs_gr (M := 68) (pc := 39) (n := 0) (ci := 1) (k := 2) (C := RX1) (T := TX1) (N := 4) (zd_eq zk68 (by decide +kernel : decode cX6_week 39 = .ok (.getfield 151, 3))) rfl (by decide) (by decide) zin_1 (zl_f zo68 zw_129)) <|
  zcons (a := (42, zi_il 1 43)) (zs_il_n (M := 68) (pc := 42) (zd_eq zk68 (by decide +kernel : decode cX6_week 42 = .ok (.iload_n 1, 1)))) <|
  zcons (a := (43, zi_ald 0 44)) (zs_iald (M := 68) (pc := 43) (zd_eq zk68 (by decide +kernel : decode cX6_week 43 = .ok (.iaload, 1)))) <|
  zcons (a := (44, zi_ri)) (zs_ri (M := 68) (pc := 44) (zd_eq zk68 (by decide +kernel : decode cX6_week 44 = .ok (.ireturn, 1))) rfl) <| znil
theorem zS68 : ∀ pc, zm_Snd 68 pc (zm_lk2 zm_c68 pc) := zlk2 (zcons2 zS68_0 (znil2))
theorem zS69_0 : ∀ q ∈ zm_c69_0, zm_Snd 69 q.1 q.2 :=
  zcons (a := (0, zi_al 0 1)) (zs_al_n (M := 69) (pc := 0) (zd_eq zk69 (by decide +kernel : decode cX6_alter 0 = .ok (.aload_n 0, 1)))) <|
  zcons (a := (1, zi_il 1 2)) (zs_il_n (M := 69) (pc := 1) (zd_eq zk69 (by decide +kernel : decode cX6_alter 1 = .ok (.iload_n 1, 1)))) <|
  zcons (a := (2, zi_cv 106 1 6 5 1)) (zs_cv (M := 69) (pc := 2) (M' := 106) (k := 1) (kd := 1) (ci := 6) (q := (RX6, TX6, 14)) (zd_eq zk69 (by decide +kernel : decode cX6_alter 2 = .ok (.invokevirtual 133, 3))) zWd106 (zl_m zo69 zy106 zw_459) (zl_i zy106 zw_461) (zl_e zy106 zw_9) (by decide) rfl (by rw [zo106])) <|
  zcons (a := (5, zi_b1 (fun x => x = 0) 28 8)) (zs_ifeq (M := 69) (pc := 5) (zd_eq zk69 (by decide +kernel : decode cX6_alter 5 = .ok (.ifCond .eq 23, 3))) (by decide)) <|
  zcons (a := (8, zi_il 2 9)) (zs_il_n (M := 69) (pc := 8) (zd_eq zk69 (by decide +kernel : decode cX6_alter 8 = .ok (.iload_n 2, 1)))) <|
  zcons (a := (9, zi_k (.int 2) 10)) (zs_iconst (M := 69) (pc := 9) (zd_eq zk69 (by decide +kernel : decode cX6_alter 9 = .ok (.iconst 2, 1))) (by decide)) <|
  zcons (a := (10, zi_cs 105 2 13 1)) (zs_cs (M := 69) (pc := 10) (M' := 105) (k := 2) (kd := 1) (zd_eq zk69 (by decide +kernel : decode cX6_alter 10 = .ok (.invokestatic 67, 3))) zWd105 (zl_m zo69 zy105 zw_280) (zl_s zy105 zw_281)) <|
  zcons (a := (13, zi_b1 (fun x => x = 0) 28 16)) (zs_ifeq (M := 69) (pc := 13) (zd_eq zk69 (by decide +kernel : decode cX6_alter 13 = .ok (.ifCond .eq 15, 3))) (by decide)) <|
  zcons (a := (16, zi_il 3 17)) (zs_il_n (M := 69) (pc := 16) (zd_eq zk69 (by decide +kernel : decode cX6_alter 16 = .ok (.iload_n 3, 1)))) <|
  zcons (a := (17, zi_k (.ref 1000001) 20)) (zs_most (M := 69) (pc := 17) (zd_eq zk69 (by decide +kernel : decode cX6_alter 17 = .ok (.getstatic 160, 3))) (zl_f zo69 zw_487)) <|
  zcons (a := (20, zi_il 2 21)) (zs_il_n (M := 69) (pc := 20) (zd_eq zk69 (by decide +kernel : decode cX6_alter 20 = .ok (.iload_n 2, 1)))) <|
  zcons (a := (21, zi_tld 22)) (zs_tld (M := 69) (pc := 21) (zd_eq zk69 (by decide +kernel : decode cX6_alter 21 = .ok (.iaload, 1)))) <|
  zcons (a := (22, zi_cs 105 2 25 1)) (zs_cs (M := 69) (pc := 22) (M' := 105) (k := 2) (kd := 1) (zd_eq zk69 (by decide +kernel : decode cX6_alter 22 = .ok (.invokestatic 67, 3))) zWd105 (zl_m zo69 zy105 zw_280) (zl_s zy105 zw_281)) <|
  zcons (a := (25, zi_b1 (fun x => ¬ x = 0) 30 28)) (zs_ifne (M := 69) (pc := 25) (zd_eq zk69 (by decide +kernel : decode cX6_alter 25 = .ok (.ifCond .ne 5, 3))) (by decide)) <|
  zcons (a := (28, zi_k (.int (-1)) 29)) (zs_iconst (M := 69) (pc := 28) (zd_eq zk69 (by decide +kernel : decode cX6_alter 28 = .ok (.iconst (-1), 1))) (by decide)) <|
  zcons (a := (29, zi_ri)) (zs_ri (M := 69) (pc := 29) (zd_eq zk69 (by decide +kernel : decode cX6_alter 29 = .ok (.ireturn, 1))) rfl) <|
  zcons (a := (30, zi_al 0 31)) (zs_al_n (M := 69) (pc := 30) (zd_eq zk69 (by decide +kernel : decode cX6_alter 30 = .ok (.aload_n 0, 1)))) <|
  zcons (a := (31, zi_gr 6 0 34)) (zs_gr (M := 69) (pc := 31) (n := 0) (ci := 6) (k := 0) (C := RX6) (T := TX6) (N := 14) (zd_eq zk69 (by decide +kernel : decode cX6_alter 31 = .ok (.getfield 10, 3))) rfl (by decide) (by decide) zin_6 (zl_f zo69 zw_233)) <|
  zcons (a := (34, zi_gr 1 0 37)) (zs_gr (M := 69) (pc := 34) (n := 0) (ci := 1) (k := 0) (C := RX1) (T := TX1) (N := 4) (zd_eq zk69 (by decide +kernel : decode cX6_alter 34 = .ok (.getfield 110, 3))) rfl (by decide) (by decide) zin_1 (zl_f zo69 zw_123)) <|
  zcons (a := (37, zi_gr 2 0 40)) (zs_gr (M := 69) (pc := 37) (n := 0) (ci := 2) (k := 0) (C := RX2) (T := TX2) (N := 2) (zd_eq zk69 (by decide +kernel : decode cX6_alter 37 = .ok (.getfield 137, 3))) rfl (by decide) (by decide) zin_2 (zl_f zo69 zw_108)) <|
  zcons (a := (40, zi_il 1 41)) (zs_il_n (M := 69) (pc := 40) (zd_eq zk69 (by decide +kernel : decode cX6_alter 40 = .ok (.iload_n 1, 1)))) <|
  zcons (a := (41, zi_qld 3 42)) (zs_qld (M := 69) (pc := 41) (t := 3) rfl (zd_eq zk69 (by decide +kernel : decode cX6_alter 41 = .ok (.aaload, 1)))) <|
  zcons (a := (42, zi_as 4 44)) (zs_as_w (M := 69) (pc := 42) (zd_eq zk69 (by decide +kernel : decode cX6_alter 42 = .ok (.astore 4, 2))) (by decide +kernel) (by decide +kernel)) <|
  zcons (a := (44, zi_al 4 46)) (zs_al_w (M := 69) (pc := 44) (zd_eq zk69 (by decide +kernel : decode cX6_alter 44 = .ok (.aload 4, 2)))) <| znil
theorem zS69_1 : ∀ q ∈ zm_c69_1, zm_Snd 69 q.1 q.2 :=
  zcons (a := (46, zi_il 2 47)) (zs_il_n (M := 69) (pc := 46) (zd_eq zk69 (by decide +kernel : decode cX6_alter 46 = .ok (.iload_n 2, 1)))) <|
  zcons (a := (47, zi_cv 11 1 0 50 1)) (zs_cv (M := 69) (pc := 47) (M' := 11) (k := 1) (kd := 1) (ci := 0) (q := (RX0, TX0, 3)) (zd_eq zk69 (by decide +kernel : decode cX6_alter 47 = .ok (.invokevirtual 157, 3))) zWd11 (zl_m zo69 zy11 zw_475) (zl_i zy11 zw_476) (zl_e zy11 zw_477) (by decide) rfl (by rw [zo11])) <|
  zcons (a := (50, zi_is 5 52)) (zs_is_w (M := 69) (pc := 50) (zd_eq zk69 (by decide +kernel : decode cX6_alter 50 = .ok (.istore 5, 2))) (by decide +kernel) (by decide +kernel)) <|
  zcons (a := (52, zi_al 4 54)) (zs_al_w (M := 69) (pc := 52) (zd_eq zk69 (by decide +kernel : decode cX6_alter 52 = .ok (.aload 4, 2)))) <|
  zcons (a := (54, zi_il 2 55)) (zs_il_n (M := 69) (pc := 54) (zd_eq zk69 (by decide +kernel : decode cX6_alter 54 = .ok (.iload_n 2, 1)))) <|
  zcons (a := (55, zi_il 3 56)) (zs_il_n (M := 69) (pc := 55) (zd_eq zk69 (by decide +kernel : decode cX6_alter 55 = .ok (.iload_n 3, 1)))) <|
  zcons (a := (56, zi_cv 12 2 0 59 0)) (zs_cv (M := 69) (pc := 56) (M' := 12) (k := 2) (kd := 0) (ci := 0) (q := (RX0, TX0, 3)) (zd_eq zk69 (by decide +kernel : decode cX6_alter 56 = .ok (.invokevirtual 163, 3))) zWd12 (zl_m zo69 zy12 zw_489) (zl_i zy12 zw_490) (zl_e zy12 zw_491) (by decide) rfl (by rw [zo12])) <|
  zcons (a := (59, zi_il 5 61)) (zs_il_w (M := 69) (pc := 59) (zd_eq zk69 (by decide +kernel : decode cX6_alter 59 = .ok (.iload 5, 2)))) <|
  zcons (a := (61, zi_ri)) (zs_ri (M := 69) (pc := 61) (zd_eq zk69 (by decide +kernel : decode cX6_alter 61 = .ok (.ireturn, 1))) rfl) <| znil
theorem zS69 : ∀ pc, zm_Snd 69 pc (zm_lk2 zm_c69 pc) := zlk2 (zcons2 zS69_0 (zcons2 zS69_1 (znil2)))
theorem zS70_0 : ∀ q ∈ zm_c70_0, zm_Snd 70 q.1 q.2 :=
  zcons (a := (0, zi_il 1 1)) (zs_il_n (M := 70) (pc := 0) (zd_eq zk70 (by decide +kernel : decode cX6_set 0 = .ok (.iload_n 1, 1)))) <|
  zcons (a := (1, zi_k (.int 6) 3)) (zs_bipush (M := 70) (pc := 1) (zd_eq zk70 (by decide +kernel : decode cX6_set 1 = .ok (.bipush 6, 2))) (by decide)) <|
  zcons (a := (3, zi_cs 105 2 6 1)) (zs_cs (M := 70) (pc := 3) (M' := 105) (k := 2) (kd := 1) (zd_eq zk70 (by decide +kernel : decode cX6_set 3 = .ok (.invokestatic 67, 3))) zWd105 (zl_m zo70 zy105 zw_280) (zl_s zy105 zw_281)) <|
  zcons (a := (6, zi_b1 (fun x => x = 0) 17 9)) (zs_ifeq (M := 70) (pc := 6) (zd_eq zk70 (by decide +kernel : decode cX6_set 6 = .ok (.ifCond .eq 11, 3))) (by decide)) <|
  zcons (a := (9, zi_il 2 10)) (zs_il_n (M := 70) (pc := 9) (zd_eq zk70 (by decide +kernel : decode cX6_set 9 = .ok (.iload_n 2, 1)))) <|
  zcons (a := (10, zi_k (.int 1) 11)) (zs_iconst (M := 70) (pc := 10) (zd_eq zk70 (by decide +kernel : decode cX6_set 10 = .ok (.iconst 1, 1))) (by decide)) <|
  zcons (a := (11, zi_cs 105 2 14 1)) (zs_cs (M := 70) (pc := 11) (M' := 105) (k := 2) (kd := 1) (zd_eq zk70 (by decide +kernel : decode cX6_set 11 = .ok (.invokestatic 67, 3))) zWd105 (zl_m zo70 zy105 zw_280) (zl_s zy105 zw_281)) <|
  zcons (a := (14, zi_b1 (fun x => ¬ x = 0) 19 17)) (zs_ifne (M := 70) (pc := 14) (zd_eq zk70 (by decide +kernel : decode cX6_set 14 = .ok (.ifCond .ne 5, 3))) (by decide)) <|
  zcons (a := (17, zi_k (.int (-1)) 18)) (zs_iconst (M := 70) (pc := 17) (zd_eq zk70 (by decide +kernel : decode cX6_set 17 = .ok (.iconst (-1), 1))) (by decide)) <|
  zcons (a := (18, zi_ri)) (zs_ri (M := 70) (pc := 18) (zd_eq zk70 (by decide +kernel : decode cX6_set 18 = .ok (.ireturn, 1))) rfl) <|
  zcons (a := (19, zi_il 3 20)) (zs_il_n (M := 70) (pc := 19) (zd_eq zk70 (by decide +kernel : decode cX6_set 19 = .ok (.iload_n 3, 1)))) <|
  zcons (a := (20, zi_il 2 21)) (zs_il_n (M := 70) (pc := 20) (zd_eq zk70 (by decide +kernel : decode cX6_set 20 = .ok (.iload_n 2, 1)))) <|
  zcons (a := (21, zi_b1 (fun x => ¬ x = 0) 29 24)) (zs_ifne (M := 70) (pc := 21) (zd_eq zk70 (by decide +kernel : decode cX6_set 21 = .ok (.ifCond .ne 8, 3))) (by decide)) <|
  zcons (a := (24, zi_k (.int 9) 26)) (zs_bipush (M := 70) (pc := 24) (zd_eq zk70 (by decide +kernel : decode cX6_set 24 = .ok (.bipush 9, 2))) (by decide)) <|
  zcons (a := (26, zi_go 31)) (zs_goto (M := 70) (pc := 26) (zd_eq zk70 (by decide +kernel : decode cX6_set 26 = .ok (.goto 5, 3))) (by decide)) <|
  zcons (a := (29, zi_k (.int 8) 31)) (zs_bipush (M := 70) (pc := 29) (zd_eq zk70 (by decide +kernel : decode cX6_set 29 = .ok (.bipush 8, 2))) (by decide)) <|
  zcons (a := (31, zi_cs 105 2 34 1)) (zs_cs (M := 70) (pc := 31) (M' := 105) (k := 2) (kd := 1) (zd_eq zk70 (by decide +kernel : decode cX6_set 31 = .ok (.invokestatic 67, 3))) zWd105 (zl_m zo70 zy105 zw_280) (zl_s zy105 zw_281)) <|
  zcons (a := (34, zi_b1 (fun x => ¬ x = 0) 39 37)) (zs_ifne (M := 70) (pc := 34) (zd_eq zk70 (by decide +kernel : decode cX6_set 34 = .ok (.ifCond .ne 5, 3))) (by decide)) <|
  zcons (a := (37, zi_k (.int (-1)) 38)) (zs_iconst (M := 70) (pc := 37) (zd_eq zk70 (by decide +kernel : decode cX6_set 37 = .ok (.iconst (-1), 1))) (by decide)) <|
  zcons (a := (38, zi_ri)) (zs_ri (M := 70) (pc := 38) (zd_eq zk70 (by decide +kernel : decode cX6_set 38 = .ok (.ireturn, 1))) rfl) <|
  zcons (a := (39, zi_il 2 40)) (zs_il_n (M := 70) (pc := 39) (zd_eq zk70 (by decide +kernel : decode cX6_set 39 = .ok (.iload_n 2, 1)))) <|
  zcons (a := (40, zi_b1 (fun x => ¬ x = 0) 53 43)) (zs_ifne (M := 70) (pc := 40) (zd_eq zk70 (by decide +kernel : decode cX6_set 40 = .ok (.ifCond .ne 13, 3))) (by decide)) <|
  zcons (a := (43, zi_al 0 44)) (zs_al_n (M := 70) (pc := 43) (zd_eq zk70 (by decide +kernel : decode cX6_set 43 = .ok (.aload_n 0, 1)))) <|
  zcons (a := (44, zi_gr 6 0 47)) (zs_gr (M := 70) (pc := 44) (n := 0) (ci := 6) (k := 0) (C := RX6) (T := TX6) (N := 14) (zd_eq zk70 (by decide +kernel : decode cX6_set 44 = .ok (.getfield 10, 3))) rfl (by decide) (by decide) zin_6 (zl_f zo70 zw_233)) <| znil
theorem zS70_1 : ∀ q ∈ zm_c70_1, zm_Snd 70 q.1 q.2 :=
  zcons (a := (47, zi_gr 1 1 50)) (zs_gr (M := 70) (pc := 47) (n := 0) (ci := 1) (k := 1) (C := RX1) (T := TX1) (N := 4) (zd_eq zk70 (by decide +kernel : decode cX6_set 47 = .ok (.getfield 141, 3))) rfl (by decide) (by decide) zin_1 (zl_f zo70 zw_126)) <|
  zcons (a := (50, zi_go 60)) (zs_goto (M := 70) (pc := 50) (zd_eq zk70 (by decide +kernel : decode cX6_set 50 = .ok (.goto 10, 3))) (by decide)) <|
  zcons (a := (53, zi_al 0 54)) (zs_al_n (M := 70) (pc := 53) (zd_eq zk70 (by decide +kernel : decode cX6_set 53 = .ok (.aload_n 0, 1)))) <|
  zcons (a := (54, zi_gr 6 0 57)) (zs_gr (M := 70) (pc := 54) (n := 0) (ci := 6) (k := 0) (C := RX6) (T := TX6) (N := 14) (zd_eq zk70 (by decide +kernel : decode cX6_set 54 = .ok (.getfield 10, 3))) rfl (by decide) (by decide) zin_6 (zl_f zo70 zw_233)) <|
  zcons (a := (57, zi_gr 1 2 60)) (zs_gr (M := 70) (pc := 57) (n := 0) (ci := 1) (k := 2) (C := RX1) (T := TX1) (N := 4) (zd_eq zk70 (by decide +kernel : decode cX6_set 57 = .ok (.getfield 151, 3))) rfl (by decide) (by decide) zin_1 (zl_f zo70 zw_129)) <|
  zcons (a := (60, zi_as 4 62)) (zs_as_w (M := 70) (pc := 60) (zd_eq zk70 (by decide +kernel : decode cX6_set 60 = .ok (.astore 4, 2))) (by decide +kernel) (by decide +kernel)) <|
  zcons (a := (62, zi_al 4 64)) (zs_al_w (M := 70) (pc := 62) (zd_eq zk70 (by decide +kernel : decode cX6_set 62 = .ok (.aload 4, 2)))) <|
  zcons (a := (64, zi_il 1 65)) (zs_il_n (M := 70) (pc := 64) (zd_eq zk70 (by decide +kernel : decode cX6_set 64 = .ok (.iload_n 1, 1)))) <|
  zcons (a := (65, zi_ald 0 66)) (zs_iald (M := 70) (pc := 65) (zd_eq zk70 (by decide +kernel : decode cX6_set 65 = .ok (.iaload, 1)))) <|
  zcons (a := (66, zi_is 5 68)) (zs_is_w (M := 70) (pc := 66) (zd_eq zk70 (by decide +kernel : decode cX6_set 66 = .ok (.istore 5, 2))) (by decide +kernel) (by decide +kernel)) <|
  zcons (a := (68, zi_al 4 70)) (zs_al_w (M := 70) (pc := 68) (zd_eq zk70 (by decide +kernel : decode cX6_set 68 = .ok (.aload 4, 2)))) <|
  zcons (a := (70, zi_il 1 71)) (zs_il_n (M := 70) (pc := 70) (zd_eq zk70 (by decide +kernel : decode cX6_set 70 = .ok (.iload_n 1, 1)))) <|
  zcons (a := (71, zi_il 3 72)) (zs_il_n (M := 70) (pc := 71) (zd_eq zk70 (by decide +kernel : decode cX6_set 71 = .ok (.iload_n 3, 1)))) <|
  zcons (a := (72, zi_ast 0 (fun x => x) 73)) (zs_iast (M := 70) (pc := 72) (zd_eq zk70 (by decide +kernel : decode cX6_set 72 = .ok (.iastore, 1)))) <|
  zcons (a := (73, zi_il 5 75)) (zs_il_w (M := 70) (pc := 73) (zd_eq zk70 (by decide +kernel : decode cX6_set 73 = .ok (.iload 5, 2)))) <|
  zcons (a := (75, zi_ri)) (zs_ri (M := 70) (pc := 75) (zd_eq zk70 (by decide +kernel : decode cX6_set 75 = .ok (.ireturn, 1))) rfl) <| znil
theorem zS70 : ∀ pc, zm_Snd 70 pc (zm_lk2 zm_c70 pc) := zlk2 (zcons2 zS70_0 (zcons2 zS70_1 (znil2)))
theorem zS71_0 : ∀ q ∈ zm_c71_0, zm_Snd 71 q.1 q.2 :=
  zcons (a := (0, zi_al 0 1)) (zs_al_n (M := 71) (pc := 0) (zd_eq zk71 (by decide +kernel : decode cX6_roll 0 = .ok (.aload_n 0, 1)))) <|
  zcons (a := (1, zi_il 1 2)) (zs_il_n (M := 71) (pc := 1) (zd_eq zk71 (by decide +kernel : decode cX6_roll 1 = .ok (.iload_n 1, 1)))) <|
  zcons (a := (2, zi_il 2 3)) (zs_il_n (M := 71) (pc := 2) (zd_eq zk71 (by decide +kernel : decode cX6_roll 2 = .ok (.iload_n 2, 1)))) <|
  zcons (a := (3, zi_cv 110 2 6 6 1)) (zs_cv (M := 71) (pc := 3) (M' := 110) (k := 2) (kd := 1) (ci := 6) (q := (RX6, TX6, 14)) (zd_eq zk71 (by decide +kernel : decode cX6_roll 3 = .ok (.invokevirtual 167, 3))) zWd110 (zl_m zo71 zy110 zw_501) (zl_i zy110 zw_503) (zl_e zy110 zw_10) (by decide) rfl (by rw [zo110])) <|
  zcons (a := (6, zi_ri)) (zs_ri (M := 71) (pc := 6) (zd_eq zk71 (by decide +kernel : decode cX6_roll 6 = .ok (.ireturn, 1))) rfl) <| znil
theorem zS71 : ∀ pc, zm_Snd 71 pc (zm_lk2 zm_c71 pc) := zlk2 (zcons2 zS71_0 (znil2))
theorem zS72_0 : ∀ q ∈ zm_c72_0, zm_Snd 72 q.1 q.2 :=
  zcons (a := (0, zi_al 0 1)) (zs_al_n (M := 72) (pc := 0) (zd_eq zk72 (by decide +kernel : decode cX6_ice 0 = .ok (.aload_n 0, 1)))) <|
  zcons (a := (1, zi_il 1 2)) (zs_il_n (M := 72) (pc := 1) (zd_eq zk72 (by decide +kernel : decode cX6_ice 1 = .ok (.iload_n 1, 1)))) <|
  zcons (a := (2, zi_cv 106 1 6 5 1)) (zs_cv (M := 72) (pc := 2) (M' := 106) (k := 1) (kd := 1) (ci := 6) (q := (RX6, TX6, 14)) (zd_eq zk72 (by decide +kernel : decode cX6_ice 2 = .ok (.invokevirtual 133, 3))) zWd106 (zl_m zo72 zy106 zw_459) (zl_i zy106 zw_461) (zl_e zy106 zw_9) (by decide) rfl (by rw [zo106])) <|
  zcons (a := (5, zi_b1 (fun x => ¬ x = 0) 10 8)) (zs_ifne (M := 72) (pc := 5) (zd_eq zk72 (by decide +kernel : decode cX6_ice 5 = .ok (.ifCond .ne 5, 3))) (by decide)) <|
  zcons (a := (8, zi_k (.int (-1)) 9)) (zs_iconst (M := 72) (pc := 8) (zd_eq zk72 (by decide +kernel : decode cX6_ice 8 = .ok (.iconst (-1), 1))) (by decide)) <|
  zcons (a := (9, zi_ri)) (zs_ri (M := 72) (pc := 9) (zd_eq zk72 (by decide +kernel : decode cX6_ice 9 = .ok (.ireturn, 1))) rfl) <|
  zcons (a := (10, zi_al 0 11)) (zs_al_n (M := 72) (pc := 10) (zd_eq zk72 (by decide +kernel : decode cX6_ice 10 = .ok (.aload_n 0, 1)))) <|
  zcons (a := (11, zi_gr 6 0 14)) (zs_gr (M := 72) (pc := 11) (n := 0) (ci := 6) (k := 0) (C := RX6) (T := TX6) (N := 14) (zd_eq zk72 (by decide +kernel : decode cX6_ice 11 = .ok (.getfield 10, 3))) rfl (by decide) (by decide) zin_6 (zl_f zo72 zw_233)) <|
  zcons (a := (14, zi_gr 1 0 17)) (zs_gr (M := 72) (pc := 14) (n := 0) (ci := 1) (k := 0) (C := RX1) (T := TX1) (N := 4) (zd_eq zk72 (by decide +kernel : decode cX6_ice 14 = .ok (.getfield 110, 3))) rfl (by decide) (by decide) zin_1 (zl_f zo72 zw_123)) <|
  zcons (a := (17, zi_gr 2 0 20)) (zs_gr (M := 72) (pc := 17) (n := 0) (ci := 2) (k := 0) (C := RX2) (T := TX2) (N := 2) (zd_eq zk72 (by decide +kernel : decode cX6_ice 17 = .ok (.getfield 137, 3))) rfl (by decide) (by decide) zin_2 (zl_f zo72 zw_108)) <|
  zcons (a := (20, zi_il 1 21)) (zs_il_n (M := 72) (pc := 20) (zd_eq zk72 (by decide +kernel : decode cX6_ice 20 = .ok (.iload_n 1, 1)))) <|
  zcons (a := (21, zi_qld 3 22)) (zs_qld (M := 72) (pc := 21) (t := 3) rfl (zd_eq zk72 (by decide +kernel : decode cX6_ice 21 = .ok (.aaload, 1)))) <|
  zcons (a := (22, zi_as 2 23)) (zs_as_n (M := 72) (pc := 22) (zd_eq zk72 (by decide +kernel : decode cX6_ice 22 = .ok (.astore_n 2, 1))) (by decide +kernel) (by decide +kernel)) <|
  zcons (a := (23, zi_al 2 24)) (zs_al_n (M := 72) (pc := 23) (zd_eq zk72 (by decide +kernel : decode cX6_ice 23 = .ok (.aload_n 2, 1)))) <|
  zcons (a := (24, zi_cv 13 0 0 27 1)) (zs_cv (M := 72) (pc := 24) (M' := 13) (k := 0) (kd := 1) (ci := 0) (q := (RX0, TX0, 3)) (zd_eq zk72 (by decide +kernel : decode cX6_ice 24 = .ok (.invokevirtual 171, 3))) zWd13 (zl_m zo72 zy13 zw_510) (zl_i zy13 zw_439) (zl_e zy13 zw_440) (by decide) rfl (by rw [zo13])) <|
  zcons (a := (27, zi_b1 (fun x => ¬ x = 0) 33 30)) (zs_ifne (M := 72) (pc := 27) (zd_eq zk72 (by decide +kernel : decode cX6_ice 27 = .ok (.ifCond .ne 6, 3))) (by decide)) <|
  zcons (a := (30, zi_k (.int (-2)) 32)) (zs_bipush (M := 72) (pc := 30) (zd_eq zk72 (by decide +kernel : decode cX6_ice 30 = .ok (.bipush (-2), 2))) (by decide)) <|
  zcons (a := (32, zi_ri)) (zs_ri (M := 72) (pc := 32) (zd_eq zk72 (by decide +kernel : decode cX6_ice 32 = .ok (.ireturn, 1))) rfl) <|
  zcons (a := (33, zi_al 2 34)) (zs_al_n (M := 72) (pc := 33) (zd_eq zk72 (by decide +kernel : decode cX6_ice 33 = .ok (.aload_n 2, 1)))) <|
  zcons (a := (34, zi_gi 0 0 37)) (zs_gi (M := 72) (pc := 34) (n := 0) (ci := 0) (k := 0) (C := RX0) (T := TX0) (N := 3) (zd_eq zk72 (by decide +kernel : decode cX6_ice 34 = .ok (.getfield 175, 3))) rfl (by decide) (by decide) zin_0 (zl_f zo72 zw_94)) <|
  zcons (a := (37, zi_is 3 38)) (zs_is_n (M := 72) (pc := 37) (zd_eq zk72 (by decide +kernel : decode cX6_ice 37 = .ok (.istore_n 3, 1))) (by decide +kernel) (by decide +kernel)) <|
  zcons (a := (38, zi_al 2 39)) (zs_al_n (M := 72) (pc := 38) (zd_eq zk72 (by decide +kernel : decode cX6_ice 38 = .ok (.aload_n 2, 1)))) <|
  zcons (a := (39, zi_k (.int 3) 40)) (zs_iconst (M := 72) (pc := 39) (zd_eq zk72 (by decide +kernel : decode cX6_ice 39 = .ok (.iconst 3, 1))) (by decide)) <|
  zcons (a := (40, zi_pf 0 0 43)) (zs_pf (M := 72) (pc := 40) (ci := 0) (k := 0) (C := RX0) (T := TX0) (N := 3) (ty0 := tyX0) (zd_eq zk72 (by decide +kernel : decode cX6_ice 40 = .ok (.putfield 175, 3))) rfl (by decide) (by decide) zin_0 (zl_f zo72 zw_94) tyX0_ok nmX0 rfl (tyX0_ok 0 (by decide))) <| znil
theorem zS72_1 : ∀ q ∈ zm_c72_1, zm_Snd 72 q.1 q.2 :=
  zcons (a := (43, zi_il 3 44)) (zs_il_n (M := 72) (pc := 43) (zd_eq zk72 (by decide +kernel : decode cX6_ice 43 = .ok (.iload_n 3, 1)))) <|
  zcons (a := (44, zi_ri)) (zs_ri (M := 72) (pc := 44) (zd_eq zk72 (by decide +kernel : decode cX6_ice 44 = .ok (.ireturn, 1))) rfl) <| znil
theorem zS72 : ∀ pc, zm_Snd 72 pc (zm_lk2 zm_c72 pc) := zlk2 (zcons2 zS72_0 (zcons2 zS72_1 (znil2)))
theorem zS73_0 : ∀ q ∈ zm_c73_0, zm_Snd 73 q.1 q.2 :=
  zcons (a := (0, zi_al 0 1)) (zs_al_n (M := 73) (pc := 0) (zd_eq zk73 (by decide +kernel : decode cX6_salt 0 = .ok (.aload_n 0, 1)))) <|
  zcons (a := (1, zi_il 1 2)) (zs_il_n (M := 73) (pc := 1) (zd_eq zk73 (by decide +kernel : decode cX6_salt 1 = .ok (.iload_n 1, 1)))) <|
  zcons (a := (2, zi_cv 106 1 6 5 1)) (zs_cv (M := 73) (pc := 2) (M' := 106) (k := 1) (kd := 1) (ci := 6) (q := (RX6, TX6, 14)) (zd_eq zk73 (by decide +kernel : decode cX6_salt 2 = .ok (.invokevirtual 133, 3))) zWd106 (zl_m zo73 zy106 zw_459) (zl_i zy106 zw_461) (zl_e zy106 zw_9) (by decide) rfl (by rw [zo106])) <|
  zcons (a := (5, zi_b1 (fun x => ¬ x = 0) 10 8)) (zs_ifne (M := 73) (pc := 5) (zd_eq zk73 (by decide +kernel : decode cX6_salt 5 = .ok (.ifCond .ne 5, 3))) (by decide)) <|
  zcons (a := (8, zi_k (.int (-1)) 9)) (zs_iconst (M := 73) (pc := 8) (zd_eq zk73 (by decide +kernel : decode cX6_salt 8 = .ok (.iconst (-1), 1))) (by decide)) <|
  zcons (a := (9, zi_ri)) (zs_ri (M := 73) (pc := 9) (zd_eq zk73 (by decide +kernel : decode cX6_salt 9 = .ok (.ireturn, 1))) rfl) <|
  zcons (a := (10, zi_al 0 11)) (zs_al_n (M := 73) (pc := 10) (zd_eq zk73 (by decide +kernel : decode cX6_salt 10 = .ok (.aload_n 0, 1)))) <|
  zcons (a := (11, zi_gr 6 0 14)) (zs_gr (M := 73) (pc := 11) (n := 0) (ci := 6) (k := 0) (C := RX6) (T := TX6) (N := 14) (zd_eq zk73 (by decide +kernel : decode cX6_salt 11 = .ok (.getfield 10, 3))) rfl (by decide) (by decide) zin_6 (zl_f zo73 zw_233)) <|
  zcons (a := (14, zi_gr 1 0 17)) (zs_gr (M := 73) (pc := 14) (n := 0) (ci := 1) (k := 0) (C := RX1) (T := TX1) (N := 4) (zd_eq zk73 (by decide +kernel : decode cX6_salt 14 = .ok (.getfield 110, 3))) rfl (by decide) (by decide) zin_1 (zl_f zo73 zw_123)) <|
  zcons (a := (17, zi_gr 2 0 20)) (zs_gr (M := 73) (pc := 17) (n := 0) (ci := 2) (k := 0) (C := RX2) (T := TX2) (N := 2) (zd_eq zk73 (by decide +kernel : decode cX6_salt 17 = .ok (.getfield 137, 3))) rfl (by decide) (by decide) zin_2 (zl_f zo73 zw_108)) <|
  zcons (a := (20, zi_il 1 21)) (zs_il_n (M := 73) (pc := 20) (zd_eq zk73 (by decide +kernel : decode cX6_salt 20 = .ok (.iload_n 1, 1)))) <|
  zcons (a := (21, zi_qld 3 22)) (zs_qld (M := 73) (pc := 21) (t := 3) rfl (zd_eq zk73 (by decide +kernel : decode cX6_salt 21 = .ok (.aaload, 1)))) <|
  zcons (a := (22, zi_as 2 23)) (zs_as_n (M := 73) (pc := 22) (zd_eq zk73 (by decide +kernel : decode cX6_salt 22 = .ok (.astore_n 2, 1))) (by decide +kernel) (by decide +kernel)) <|
  zcons (a := (23, zi_al 2 24)) (zs_al_n (M := 73) (pc := 23) (zd_eq zk73 (by decide +kernel : decode cX6_salt 23 = .ok (.aload_n 2, 1)))) <|
  zcons (a := (24, zi_cv 13 0 0 27 1)) (zs_cv (M := 73) (pc := 24) (M' := 13) (k := 0) (kd := 1) (ci := 0) (q := (RX0, TX0, 3)) (zd_eq zk73 (by decide +kernel : decode cX6_salt 24 = .ok (.invokevirtual 171, 3))) zWd13 (zl_m zo73 zy13 zw_510) (zl_i zy13 zw_439) (zl_e zy13 zw_440) (by decide) rfl (by rw [zo13])) <|
  zcons (a := (27, zi_b1 (fun x => ¬ x = 0) 33 30)) (zs_ifne (M := 73) (pc := 27) (zd_eq zk73 (by decide +kernel : decode cX6_salt 27 = .ok (.ifCond .ne 6, 3))) (by decide)) <|
  zcons (a := (30, zi_k (.int (-2)) 32)) (zs_bipush (M := 73) (pc := 30) (zd_eq zk73 (by decide +kernel : decode cX6_salt 30 = .ok (.bipush (-2), 2))) (by decide)) <|
  zcons (a := (32, zi_ri)) (zs_ri (M := 73) (pc := 32) (zd_eq zk73 (by decide +kernel : decode cX6_salt 32 = .ok (.ireturn, 1))) rfl) <|
  zcons (a := (33, zi_al 2 34)) (zs_al_n (M := 73) (pc := 33) (zd_eq zk73 (by decide +kernel : decode cX6_salt 33 = .ok (.aload_n 2, 1)))) <|
  zcons (a := (34, zi_cv 14 0 0 37 0)) (zs_cv (M := 73) (pc := 34) (M' := 14) (k := 0) (kd := 0) (ci := 0) (q := (RX0, TX0, 3)) (zd_eq zk73 (by decide +kernel : decode cX6_salt 34 = .ok (.invokevirtual 178, 3))) zWd14 (zl_m zo73 zy14 zw_515) (zl_i zy14 zw_516) (zl_e zy14 zw_517) (by decide) rfl (by rw [zo14])) <|
  zcons (a := (37, zi_al 2 38)) (zs_al_n (M := 73) (pc := 37) (zd_eq zk73 (by decide +kernel : decode cX6_salt 37 = .ok (.aload_n 2, 1)))) <|
  zcons (a := (38, zi_gi 0 1 41)) (zs_gi (M := 73) (pc := 38) (n := 0) (ci := 0) (k := 1) (C := RX0) (T := TX0) (N := 3) (zd_eq zk73 (by decide +kernel : decode cX6_salt 38 = .ok (.getfield 181, 3))) rfl (by decide) (by decide) zin_0 (zl_f zo73 zw_97)) <|
  zcons (a := (41, zi_ri)) (zs_ri (M := 73) (pc := 41) (zd_eq zk73 (by decide +kernel : decode cX6_salt 41 = .ok (.ireturn, 1))) rfl) <| znil
theorem zS73 : ∀ pc, zm_Snd 73 pc (zm_lk2 zm_c73 pc) := zlk2 (zcons2 zS73_0 (znil2))
theorem zS74_0 : ∀ q ∈ zm_c74_0, zm_Snd 74 q.1 q.2 :=
  zcons (a := (0, zi_il 1 1)) (zs_il_n (M := 74) (pc := 0) (zd_eq zk74 (by decide +kernel : decode cX6_clear 0 = .ok (.iload_n 1, 1)))) <|
  zcons (a := (1, zi_al 0 2)) (zs_al_n (M := 74) (pc := 1) (zd_eq zk74 (by decide +kernel : decode cX6_clear 1 = .ok (.aload_n 0, 1)))) <|
  zcons (a := (2, zi_gr 6 0 5)) (zs_gr (M := 74) (pc := 2) (n := 0) (ci := 6) (k := 0) (C := RX6) (T := TX6) (N := 14) (zd_eq zk74 (by decide +kernel : decode cX6_clear 2 = .ok (.getfield 10, 3))) rfl (by decide) (by decide) zin_6 (zl_f zo74 zw_233)) <|
  zcons (a := (5, zi_gr 1 0 8)) (zs_gr (M := 74) (pc := 5) (n := 0) (ci := 1) (k := 0) (C := RX1) (T := TX1) (N := 4) (zd_eq zk74 (by decide +kernel : decode cX6_clear 5 = .ok (.getfield 110, 3))) rfl (by decide) (by decide) zin_1 (zl_f zo74 zw_123)) <|
  zcons (a := (8, zi_gi 2 1 11)) (zs_gi (M := 74) (pc := 8) (n := 0) (ci := 2) (k := 1) (C := RX2) (T := TX2) (N := 2) (zd_eq zk74 (by decide +kernel : decode cX6_clear 8 = .ok (.getfield 114, 3))) rfl (by decide) (by decide) zin_2 (zl_f zo74 zw_112)) <|
  zcons (a := (11, zi_cs 105 2 14 1)) (zs_cs (M := 74) (pc := 11) (M' := 105) (k := 2) (kd := 1) (zd_eq zk74 (by decide +kernel : decode cX6_clear 11 = .ok (.invokestatic 67, 3))) zWd105 (zl_m zo74 zy105 zw_280) (zl_s zy105 zw_281)) <|
  zcons (a := (14, zi_b1 (fun x => ¬ x = 0) 19 17)) (zs_ifne (M := 74) (pc := 14) (zd_eq zk74 (by decide +kernel : decode cX6_clear 14 = .ok (.ifCond .ne 5, 3))) (by decide)) <|
  zcons (a := (17, zi_k (.int (-1)) 18)) (zs_iconst (M := 74) (pc := 17) (zd_eq zk74 (by decide +kernel : decode cX6_clear 17 = .ok (.iconst (-1), 1))) (by decide)) <|
  zcons (a := (18, zi_ri)) (zs_ri (M := 74) (pc := 18) (zd_eq zk74 (by decide +kernel : decode cX6_clear 18 = .ok (.ireturn, 1))) rfl) <|
  zcons (a := (19, zi_al 0 20)) (zs_al_n (M := 74) (pc := 19) (zd_eq zk74 (by decide +kernel : decode cX6_clear 19 = .ok (.aload_n 0, 1)))) <|
  zcons (a := (20, zi_gr 6 0 23)) (zs_gr (M := 74) (pc := 20) (n := 0) (ci := 6) (k := 0) (C := RX6) (T := TX6) (N := 14) (zd_eq zk74 (by decide +kernel : decode cX6_clear 20 = .ok (.getfield 10, 3))) rfl (by decide) (by decide) zin_6 (zl_f zo74 zw_233)) <|
  zcons (a := (23, zi_gr 1 0 26)) (zs_gr (M := 74) (pc := 23) (n := 0) (ci := 1) (k := 0) (C := RX1) (T := TX1) (N := 4) (zd_eq zk74 (by decide +kernel : decode cX6_clear 23 = .ok (.getfield 110, 3))) rfl (by decide) (by decide) zin_1 (zl_f zo74 zw_123)) <|
  zcons (a := (26, zi_gi 2 1 29)) (zs_gi (M := 74) (pc := 26) (n := 0) (ci := 2) (k := 1) (C := RX2) (T := TX2) (N := 2) (zd_eq zk74 (by decide +kernel : decode cX6_clear 26 = .ok (.getfield 114, 3))) rfl (by decide) (by decide) zin_2 (zl_f zo74 zw_112)) <|
  zcons (a := (29, zi_is 2 30)) (zs_is_n (M := 74) (pc := 29) (zd_eq zk74 (by decide +kernel : decode cX6_clear 29 = .ok (.istore_n 2, 1))) (by decide +kernel) (by decide +kernel)) <|
  zcons (a := (30, zi_al 0 31)) (zs_al_n (M := 74) (pc := 30) (zd_eq zk74 (by decide +kernel : decode cX6_clear 30 = .ok (.aload_n 0, 1)))) <|
  zcons (a := (31, zi_gr 6 0 34)) (zs_gr (M := 74) (pc := 31) (n := 0) (ci := 6) (k := 0) (C := RX6) (T := TX6) (N := 14) (zd_eq zk74 (by decide +kernel : decode cX6_clear 31 = .ok (.getfield 10, 3))) rfl (by decide) (by decide) zin_6 (zl_f zo74 zw_233)) <|
  zcons (a := (34, zi_gr 1 0 37)) (zs_gr (M := 74) (pc := 34) (n := 0) (ci := 1) (k := 0) (C := RX1) (T := TX1) (N := 4) (zd_eq zk74 (by decide +kernel : decode cX6_clear 34 = .ok (.getfield 110, 3))) rfl (by decide) (by decide) zin_1 (zl_f zo74 zw_123)) <|
  zcons (a := (37, zi_il 1 38)) (zs_il_n (M := 74) (pc := 37) (zd_eq zk74 (by decide +kernel : decode cX6_clear 37 = .ok (.iload_n 1, 1)))) <|
  zcons (a := (38, zi_pf 2 1 41)) (zs_pf (M := 74) (pc := 38) (ci := 2) (k := 1) (C := RX2) (T := TX2) (N := 2) (ty0 := tyX2) (zd_eq zk74 (by decide +kernel : decode cX6_clear 38 = .ok (.putfield 114, 3))) rfl (by decide) (by decide) zin_2 (zl_f zo74 zw_112) tyX2_ok nmX2 rfl (tyX2_ok 1 (by decide))) <|
  zcons (a := (41, zi_il 2 42)) (zs_il_n (M := 74) (pc := 41) (zd_eq zk74 (by decide +kernel : decode cX6_clear 41 = .ok (.iload_n 2, 1)))) <|
  zcons (a := (42, zi_ri)) (zs_ri (M := 74) (pc := 42) (zd_eq zk74 (by decide +kernel : decode cX6_clear 42 = .ok (.ireturn, 1))) rfl) <| znil
theorem zS74 : ∀ pc, zm_Snd 74 pc (zm_lk2 zm_c74 pc) := zlk2 (zcons2 zS74_0 (znil2))
theorem zS75_0 : ∀ q ∈ zm_c75_0, zm_Snd 75 q.1 q.2 :=
  zcons (a := (0, zi_il 1 1)) (zs_il_n (M := 75) (pc := 0) (zd_eq zk75 (by decide +kernel : decode cX6_days 0 = .ok (.iload_n 1, 1)))) <|
  zcons (a := (1, zi_k (.int 30) 3)) (zs_bipush (M := 75) (pc := 1) (zd_eq zk75 (by decide +kernel : decode cX6_days 1 = .ok (.bipush 30, 2))) (by decide)) <|
  zcons (a := (3, zi_cs 105 2 6 1)) (zs_cs (M := 75) (pc := 3) (M' := 105) (k := 2) (kd := 1) (zd_eq zk75 (by decide +kernel : decode cX6_days 3 = .ok (.invokestatic 67, 3))) zWd105 (zl_m zo75 zy105 zw_280) (zl_s zy105 zw_281)) <|
  zcons (a := (6, zi_b1 (fun x => ¬ x = 0) 11 9)) (zs_ifne (M := 75) (pc := 6) (zd_eq zk75 (by decide +kernel : decode cX6_days 6 = .ok (.ifCond .ne 5, 3))) (by decide)) <|
  zcons (a := (9, zi_k (.int (-1)) 10)) (zs_iconst (M := 75) (pc := 9) (zd_eq zk75 (by decide +kernel : decode cX6_days 9 = .ok (.iconst (-1), 1))) (by decide)) <|
  zcons (a := (10, zi_ri)) (zs_ri (M := 75) (pc := 10) (zd_eq zk75 (by decide +kernel : decode cX6_days 10 = .ok (.ireturn, 1))) rfl) <|
  zcons (a := (11, zi_al 0 12)) (zs_al_n (M := 75) (pc := 11) (zd_eq zk75 (by decide +kernel : decode cX6_days 11 = .ok (.aload_n 0, 1)))) <|
  zcons (a := (12, zi_gr 6 0 15)) (zs_gr (M := 75) (pc := 12) (n := 0) (ci := 6) (k := 0) (C := RX6) (T := TX6) (N := 14) (zd_eq zk75 (by decide +kernel : decode cX6_days 12 = .ok (.getfield 10, 3))) rfl (by decide) (by decide) zin_6 (zl_f zo75 zw_233)) <|
  zcons (a := (15, zi_gi 1 3 18)) (zs_gi (M := 75) (pc := 15) (n := 0) (ci := 1) (k := 3) (C := RX1) (T := TX1) (N := 4) (zd_eq zk75 (by decide +kernel : decode cX6_days 15 = .ok (.getfield 117, 3))) rfl (by decide) (by decide) zin_1 (zl_f zo75 zw_131)) <|
  zcons (a := (18, zi_il 1 19)) (zs_il_n (M := 75) (pc := 18) (zd_eq zk75 (by decide +kernel : decode cX6_days 18 = .ok (.iload_n 1, 1)))) <|
  zcons (a := (19, zi_bin (· + ·) 20)) (zs_iadd (M := 75) (pc := 19) (zd_eq zk75 (by decide +kernel : decode cX6_days 19 = .ok (.iadd, 1)))) <|
  zcons (a := (20, zi_k (.int 1000) 23)) (zs_sipush (M := 75) (pc := 20) (zd_eq zk75 (by decide +kernel : decode cX6_days 20 = .ok (.sipush 1000, 3))) (by decide)) <|
  zcons (a := (23, zi_b2 (fun x y => x < y) 29 26)) (zs_icmplt (M := 75) (pc := 23) (zd_eq zk75 (by decide +kernel : decode cX6_days 23 = .ok (.if_icmp .lt 6, 3))) (by decide)) <|
  zcons (a := (26, zi_k (.int (-3)) 28)) (zs_bipush (M := 75) (pc := 26) (zd_eq zk75 (by decide +kernel : decode cX6_days 26 = .ok (.bipush (-3), 2))) (by decide)) <|
  zcons (a := (28, zi_ri)) (zs_ri (M := 75) (pc := 28) (zd_eq zk75 (by decide +kernel : decode cX6_days 28 = .ok (.ireturn, 1))) rfl) <|
  zcons (a := (29, zi_al 0 30)) (zs_al_n (M := 75) (pc := 29) (zd_eq zk75 (by decide +kernel : decode cX6_days 29 = .ok (.aload_n 0, 1)))) <|
  zcons (a := (30, zi_gr 6 0 33)) (zs_gr (M := 75) (pc := 30) (n := 0) (ci := 6) (k := 0) (C := RX6) (T := TX6) (N := 14) (zd_eq zk75 (by decide +kernel : decode cX6_days 30 = .ok (.getfield 10, 3))) rfl (by decide) (by decide) zin_6 (zl_f zo75 zw_233)) <|
  zcons (a := (33, zi_il 1 34)) (zs_il_n (M := 75) (pc := 33) (zd_eq zk75 (by decide +kernel : decode cX6_days 33 = .ok (.iload_n 1, 1)))) <|
  zcons (a := (34, zi_cv 33 1 1 37 0)) (zs_cv (M := 75) (pc := 34) (M' := 33) (k := 1) (kd := 0) (ci := 1) (q := (RX1, TX1, 4)) (zd_eq zk75 (by decide +kernel : decode cX6_days 34 = .ok (.invokevirtual 184, 3))) zWd33 (zl_m zo75 zy33 zw_527) (zl_i zy33 zw_528) (zl_e zy33 zw_529) (by decide) rfl (by rw [zo33])) <|
  zcons (a := (37, zi_al 0 38)) (zs_al_n (M := 75) (pc := 37) (zd_eq zk75 (by decide +kernel : decode cX6_days 37 = .ok (.aload_n 0, 1)))) <|
  zcons (a := (38, zi_gr 6 0 41)) (zs_gr (M := 75) (pc := 38) (n := 0) (ci := 6) (k := 0) (C := RX6) (T := TX6) (N := 14) (zd_eq zk75 (by decide +kernel : decode cX6_days 38 = .ok (.getfield 10, 3))) rfl (by decide) (by decide) zin_6 (zl_f zo75 zw_233)) <|
  zcons (a := (41, zi_gr 1 0 44)) (zs_gr (M := 75) (pc := 41) (n := 0) (ci := 1) (k := 0) (C := RX1) (T := TX1) (N := 4) (zd_eq zk75 (by decide +kernel : decode cX6_days 41 = .ok (.getfield 110, 3))) rfl (by decide) (by decide) zin_1 (zl_f zo75 zw_123)) <|
  zcons (a := (44, zi_cv 25 0 2 47 1)) (zs_cv (M := 75) (pc := 44) (M' := 25) (k := 0) (kd := 1) (ci := 2) (q := (RX2, TX2, 2)) (zd_eq zk75 (by decide +kernel : decode cX6_days 44 = .ok (.invokevirtual 187, 3))) zWd25 (zl_m zo75 zy25 zw_556) (zl_i zy25 zw_557) (zl_e zy25 zw_558) (by decide) rfl (by rw [zo25])) <|
  zcons (a := (47, zi_ri)) (zs_ri (M := 75) (pc := 47) (zd_eq zk75 (by decide +kernel : decode cX6_days 47 = .ok (.ireturn, 1))) rfl) <| znil
theorem zS75 : ∀ pc, zm_Snd 75 pc (zm_lk2 zm_c75 pc) := zlk2 (zcons2 zS75_0 (znil2))
theorem zS76_0 : ∀ q ∈ zm_c76_0, zm_Snd 76 q.1 q.2 :=
  zcons (a := (0, zi_il 1 1)) (zs_il_n (M := 76) (pc := 0) (zd_eq zk76 (by decide +kernel : decode cX6_runs 0 = .ok (.iload_n 1, 1)))) <|
  zcons (a := (1, zi_k (.int 60) 3)) (zs_bipush (M := 76) (pc := 1) (zd_eq zk76 (by decide +kernel : decode cX6_runs 1 = .ok (.bipush 60, 2))) (by decide)) <|
  zcons (a := (3, zi_cs 105 2 6 1)) (zs_cs (M := 76) (pc := 3) (M' := 105) (k := 2) (kd := 1) (zd_eq zk76 (by decide +kernel : decode cX6_runs 3 = .ok (.invokestatic 67, 3))) zWd105 (zl_m zo76 zy105 zw_280) (zl_s zy105 zw_281)) <|
  zcons (a := (6, zi_b1 (fun x => x = 0) 17 9)) (zs_ifeq (M := 76) (pc := 6) (zd_eq zk76 (by decide +kernel : decode cX6_runs 6 = .ok (.ifCond .eq 11, 3))) (by decide)) <|
  zcons (a := (9, zi_il 2 10)) (zs_il_n (M := 76) (pc := 9) (zd_eq zk76 (by decide +kernel : decode cX6_runs 9 = .ok (.iload_n 2, 1)))) <|
  zcons (a := (10, zi_k (.int 4) 11)) (zs_iconst (M := 76) (pc := 10) (zd_eq zk76 (by decide +kernel : decode cX6_runs 10 = .ok (.iconst 4, 1))) (by decide)) <|
  zcons (a := (11, zi_cs 105 2 14 1)) (zs_cs (M := 76) (pc := 11) (M' := 105) (k := 2) (kd := 1) (zd_eq zk76 (by decide +kernel : decode cX6_runs 11 = .ok (.invokestatic 67, 3))) zWd105 (zl_m zo76 zy105 zw_280) (zl_s zy105 zw_281)) <|
  zcons (a := (14, zi_b1 (fun x => ¬ x = 0) 19 17)) (zs_ifne (M := 76) (pc := 14) (zd_eq zk76 (by decide +kernel : decode cX6_runs 14 = .ok (.ifCond .ne 5, 3))) (by decide)) <|
  zcons (a := (17, zi_k (.int (-1)) 18)) (zs_iconst (M := 76) (pc := 17) (zd_eq zk76 (by decide +kernel : decode cX6_runs 17 = .ok (.iconst (-1), 1))) (by decide)) <|
  zcons (a := (18, zi_ri)) (zs_ri (M := 76) (pc := 18) (zd_eq zk76 (by decide +kernel : decode cX6_runs 18 = .ok (.ireturn, 1))) rfl) <|
  zcons (a := (19, zi_al 0 20)) (zs_al_n (M := 76) (pc := 19) (zd_eq zk76 (by decide +kernel : decode cX6_runs 19 = .ok (.aload_n 0, 1)))) <|
  zcons (a := (20, zi_gr 6 1 23)) (zs_gr (M := 76) (pc := 20) (n := 0) (ci := 6) (k := 1) (C := RX6) (T := TX6) (N := 14) (zd_eq zk76 (by decide +kernel : decode cX6_runs 20 = .ok (.getfield 16, 3))) rfl (by decide) (by decide) zin_6 (zl_f zo76 zw_234)) <|
  zcons (a := (23, zi_al 0 24)) (zs_al_n (M := 76) (pc := 23) (zd_eq zk76 (by decide +kernel : decode cX6_runs 23 = .ok (.aload_n 0, 1)))) <|
  zcons (a := (24, zi_gr 6 0 27)) (zs_gr (M := 76) (pc := 24) (n := 0) (ci := 6) (k := 0) (C := RX6) (T := TX6) (N := 14) (zd_eq zk76 (by decide +kernel : decode cX6_runs 24 = .ok (.getfield 10, 3))) rfl (by decide) (by decide) zin_6 (zl_f zo76 zw_233)) <|
  zcons (a := (27, zi_cv 30 1 1 30 0)) (zs_cv (M := 76) (pc := 27) (M' := 30) (k := 1) (kd := 0) (ci := 1) (q := (RX1, TX1, 4)) (zd_eq zk76 (by decide +kernel : decode cX6_runs 27 = .ok (.invokevirtual 100, 3))) zWd30 (zl_m zo76 zy30 zw_411) (zl_i zy30 zw_412) (zl_e zy30 zw_413) (by decide) rfl (by rw [zo30])) <|
  zcons (a := (30, zi_il 2 31)) (zs_il_n (M := 76) (pc := 30) (zd_eq zk76 (by decide +kernel : decode cX6_runs 30 = .ok (.iload_n 2, 1)))) <|
  zcons (a := (31, zi_k (.int 2) 32)) (zs_iconst (M := 76) (pc := 31) (zd_eq zk76 (by decide +kernel : decode cX6_runs 31 = .ok (.iconst 2, 1))) (by decide)) <|
  zcons (a := (32, zi_b2 (fun x y => ¬ x = y) 44 35)) (zs_icmpne (M := 76) (pc := 32) (zd_eq zk76 (by decide +kernel : decode cX6_runs 32 = .ok (.if_icmp .ne 12, 3))) (by decide)) <|
  zcons (a := (35, zi_al 0 36)) (zs_al_n (M := 76) (pc := 35) (zd_eq zk76 (by decide +kernel : decode cX6_runs 35 = .ok (.aload_n 0, 1)))) <|
  zcons (a := (36, zi_gr 6 1 39)) (zs_gr (M := 76) (pc := 36) (n := 0) (ci := 6) (k := 1) (C := RX6) (T := TX6) (N := 14) (zd_eq zk76 (by decide +kernel : decode cX6_runs 36 = .ok (.getfield 16, 3))) rfl (by decide) (by decide) zin_6 (zl_f zo76 zw_234)) <|
  zcons (a := (39, zi_il 1 40)) (zs_il_n (M := 76) (pc := 39) (zd_eq zk76 (by decide +kernel : decode cX6_runs 39 = .ok (.iload_n 1, 1)))) <|
  zcons (a := (40, zi_cv 34 1 1 43 1)) (zs_cv (M := 76) (pc := 40) (M' := 34) (k := 1) (kd := 1) (ci := 1) (q := (RX1, TX1, 4)) (zd_eq zk76 (by decide +kernel : decode cX6_runs 40 = .ok (.invokevirtual 190, 3))) zWd34 (zl_m zo76 zy34 zw_571) (zl_i zy34 zw_572) (zl_e zy34 zw_573) (by decide) rfl (by rw [zo34])) <|
  zcons (a := (43, zi_ri)) (zs_ri (M := 76) (pc := 43) (zd_eq zk76 (by decide +kernel : decode cX6_runs 43 = .ok (.ireturn, 1))) rfl) <|
  zcons (a := (44, zi_il 2 45)) (zs_il_n (M := 76) (pc := 44) (zd_eq zk76 (by decide +kernel : decode cX6_runs 44 = .ok (.iload_n 2, 1)))) <| znil
theorem zS76_1 : ∀ q ∈ zm_c76_1, zm_Snd 76 q.1 q.2 :=
  zcons (a := (45, zi_k (.int 4) 46)) (zs_iconst (M := 76) (pc := 45) (zd_eq zk76 (by decide +kernel : decode cX6_runs 45 = .ok (.iconst 4, 1))) (by decide)) <|
  zcons (a := (46, zi_b2 (fun x y => ¬ x = y) 58 49)) (zs_icmpne (M := 76) (pc := 46) (zd_eq zk76 (by decide +kernel : decode cX6_runs 46 = .ok (.if_icmp .ne 12, 3))) (by decide)) <|
  zcons (a := (49, zi_al 0 50)) (zs_al_n (M := 76) (pc := 49) (zd_eq zk76 (by decide +kernel : decode cX6_runs 49 = .ok (.aload_n 0, 1)))) <|
  zcons (a := (50, zi_gr 6 1 53)) (zs_gr (M := 76) (pc := 50) (n := 0) (ci := 6) (k := 1) (C := RX6) (T := TX6) (N := 14) (zd_eq zk76 (by decide +kernel : decode cX6_runs 50 = .ok (.getfield 16, 3))) rfl (by decide) (by decide) zin_6 (zl_f zo76 zw_234)) <|
  zcons (a := (53, zi_il 1 54)) (zs_il_n (M := 76) (pc := 53) (zd_eq zk76 (by decide +kernel : decode cX6_runs 53 = .ok (.iload_n 1, 1)))) <|
  zcons (a := (54, zi_cv 36 1 1 57 1)) (zs_cv (M := 76) (pc := 54) (M' := 36) (k := 1) (kd := 1) (ci := 1) (q := (RX1, TX1, 4)) (zd_eq zk76 (by decide +kernel : decode cX6_runs 54 = .ok (.invokevirtual 193, 3))) zWd36 (zl_m zo76 zy36 zw_580) (zl_i zy36 zw_581) (zl_e zy36 zw_582) (by decide) rfl (by rw [zo36])) <|
  zcons (a := (57, zi_ri)) (zs_ri (M := 76) (pc := 57) (zd_eq zk76 (by decide +kernel : decode cX6_runs 57 = .ok (.ireturn, 1))) rfl) <|
  zcons (a := (58, zi_al 0 59)) (zs_al_n (M := 76) (pc := 58) (zd_eq zk76 (by decide +kernel : decode cX6_runs 58 = .ok (.aload_n 0, 1)))) <|
  zcons (a := (59, zi_gr 6 1 62)) (zs_gr (M := 76) (pc := 59) (n := 0) (ci := 6) (k := 1) (C := RX6) (T := TX6) (N := 14) (zd_eq zk76 (by decide +kernel : decode cX6_runs 59 = .ok (.getfield 16, 3))) rfl (by decide) (by decide) zin_6 (zl_f zo76 zw_234)) <|
  zcons (a := (62, zi_il 1 63)) (zs_il_n (M := 76) (pc := 62) (zd_eq zk76 (by decide +kernel : decode cX6_runs 62 = .ok (.iload_n 1, 1)))) <|
  zcons (a := (63, zi_cv 33 1 1 66 0)) (zs_cv (M := 76) (pc := 63) (M' := 33) (k := 1) (kd := 0) (ci := 1) (q := (RX1, TX1, 4)) (zd_eq zk76 (by decide +kernel : decode cX6_runs 63 = .ok (.invokevirtual 184, 3))) zWd33 (zl_m zo76 zy33 zw_527) (zl_i zy33 zw_528) (zl_e zy33 zw_529) (by decide) rfl (by rw [zo33])) <|
  zcons (a := (66, zi_il 2 67)) (zs_il_n (M := 76) (pc := 66) (zd_eq zk76 (by decide +kernel : decode cX6_runs 66 = .ok (.iload_n 2, 1)))) <|
  zcons (a := (67, zi_b1 (fun x => ¬ x = 0) 81 70)) (zs_ifne (M := 76) (pc := 67) (zd_eq zk76 (by decide +kernel : decode cX6_runs 67 = .ok (.ifCond .ne 14, 3))) (by decide)) <|
  zcons (a := (70, zi_al 0 71)) (zs_al_n (M := 76) (pc := 70) (zd_eq zk76 (by decide +kernel : decode cX6_runs 70 = .ok (.aload_n 0, 1)))) <|
  zcons (a := (71, zi_gr 6 1 74)) (zs_gr (M := 76) (pc := 71) (n := 0) (ci := 6) (k := 1) (C := RX6) (T := TX6) (N := 14) (zd_eq zk76 (by decide +kernel : decode cX6_runs 71 = .ok (.getfield 16, 3))) rfl (by decide) (by decide) zin_6 (zl_f zo76 zw_234)) <|
  zcons (a := (74, zi_gr 1 0 77)) (zs_gr (M := 76) (pc := 74) (n := 0) (ci := 1) (k := 0) (C := RX1) (T := TX1) (N := 4) (zd_eq zk76 (by decide +kernel : decode cX6_runs 74 = .ok (.getfield 110, 3))) rfl (by decide) (by decide) zin_1 (zl_f zo76 zw_123)) <|
  zcons (a := (77, zi_cv 24 0 2 80 1)) (zs_cv (M := 76) (pc := 77) (M' := 24) (k := 0) (kd := 1) (ci := 2) (q := (RX2, TX2, 2)) (zd_eq zk76 (by decide +kernel : decode cX6_runs 77 = .ok (.invokevirtual 127, 3))) zWd24 (zl_m zo76 zy24 zw_447) (zl_i zy24 zw_448) (zl_e zy24 zw_449) (by decide) rfl (by rw [zo24])) <|
  zcons (a := (80, zi_ri)) (zs_ri (M := 76) (pc := 80) (zd_eq zk76 (by decide +kernel : decode cX6_runs 80 = .ok (.ireturn, 1))) rfl) <|
  zcons (a := (81, zi_il 2 82)) (zs_il_n (M := 76) (pc := 81) (zd_eq zk76 (by decide +kernel : decode cX6_runs 81 = .ok (.iload_n 2, 1)))) <|
  zcons (a := (82, zi_k (.int 1) 83)) (zs_iconst (M := 76) (pc := 82) (zd_eq zk76 (by decide +kernel : decode cX6_runs 82 = .ok (.iconst 1, 1))) (by decide)) <|
  zcons (a := (83, zi_b2 (fun x y => ¬ x = y) 99 86)) (zs_icmpne (M := 76) (pc := 83) (zd_eq zk76 (by decide +kernel : decode cX6_runs 83 = .ok (.if_icmp .ne 16, 3))) (by decide)) <|
  zcons (a := (86, zi_al 0 87)) (zs_al_n (M := 76) (pc := 86) (zd_eq zk76 (by decide +kernel : decode cX6_runs 86 = .ok (.aload_n 0, 1)))) <|
  zcons (a := (87, zi_gr 6 1 90)) (zs_gr (M := 76) (pc := 87) (n := 0) (ci := 6) (k := 1) (C := RX6) (T := TX6) (N := 14) (zd_eq zk76 (by decide +kernel : decode cX6_runs 87 = .ok (.getfield 16, 3))) rfl (by decide) (by decide) zin_6 (zl_f zo76 zw_234)) <|
  zcons (a := (90, zi_gr 1 0 93)) (zs_gr (M := 76) (pc := 90) (n := 0) (ci := 1) (k := 0) (C := RX1) (T := TX1) (N := 4) (zd_eq zk76 (by decide +kernel : decode cX6_runs 90 = .ok (.getfield 110, 3))) rfl (by decide) (by decide) zin_1 (zl_f zo76 zw_123)) <| znil
theorem zS76_2 : ∀ q ∈ zm_c76_2, zm_Snd 76 q.1 q.2 :=
  zcons (a := (93, zi_cv 22 0 2 96 1)) (zs_cv (M := 76) (pc := 93) (M' := 22) (k := 0) (kd := 1) (ci := 2) (q := (RX2, TX2, 2)) (zd_eq zk76 (by decide +kernel : decode cX6_runs 93 = .ok (.invokevirtual 120, 3))) zWd22 (zl_m zo76 zy22 zw_434) (zl_i zy22 zw_435) (zl_e zy22 zw_436) (by decide) rfl (by rw [zo22])) <|
  zcons (a := (96, zi_go 109)) (zs_goto (M := 76) (pc := 96) (zd_eq zk76 (by decide +kernel : decode cX6_runs 96 = .ok (.goto 13, 3))) (by decide)) <|
  zcons (a := (99, zi_al 0 100)) (zs_al_n (M := 76) (pc := 99) (zd_eq zk76 (by decide +kernel : decode cX6_runs 99 = .ok (.aload_n 0, 1)))) <|
  zcons (a := (100, zi_gr 6 1 103)) (zs_gr (M := 76) (pc := 100) (n := 0) (ci := 6) (k := 1) (C := RX6) (T := TX6) (N := 14) (zd_eq zk76 (by decide +kernel : decode cX6_runs 100 = .ok (.getfield 16, 3))) rfl (by decide) (by decide) zin_6 (zl_f zo76 zw_234)) <|
  zcons (a := (103, zi_gr 1 0 106)) (zs_gr (M := 76) (pc := 103) (n := 0) (ci := 1) (k := 0) (C := RX1) (T := TX1) (N := 4) (zd_eq zk76 (by decide +kernel : decode cX6_runs 103 = .ok (.getfield 110, 3))) rfl (by decide) (by decide) zin_1 (zl_f zo76 zw_123)) <|
  zcons (a := (106, zi_cv 26 0 2 109 1)) (zs_cv (M := 76) (pc := 106) (M' := 26) (k := 0) (kd := 1) (ci := 2) (q := (RX2, TX2, 2)) (zd_eq zk76 (by decide +kernel : decode cX6_runs 106 = .ok (.invokevirtual 130, 3))) zWd26 (zl_m zo76 zy26 zw_451) (zl_i zy26 zw_452) (zl_e zy26 zw_453) (by decide) rfl (by rw [zo26])) <|
  zcons (a := (109, zi_ri)) (zs_ri (M := 76) (pc := 109) (zd_eq zk76 (by decide +kernel : decode cX6_runs 109 = .ok (.ireturn, 1))) rfl) <| znil
theorem zS76 : ∀ pc, zm_Snd 76 pc (zm_lk2 zm_c76 pc) := zlk2 (zcons2 zS76_0 (zcons2 zS76_1 (zcons2 zS76_2 (znil2))))
theorem zS77_0 : ∀ q ∈ zm_c77_0, zm_Snd 77 q.1 q.2 :=
  zcons (a := (0, zi_al 0 1)) (zs_al_n (M := 77) (pc := 0) (zd_eq zk77 (by decide +kernel : decode cX6_ahead 0 = .ok (.aload_n 0, 1)))) <|
  zcons (a := (1, zi_il 1 2)) (zs_il_n (M := 77) (pc := 1) (zd_eq zk77 (by decide +kernel : decode cX6_ahead 1 = .ok (.iload_n 1, 1)))) <|
  zcons (a := (2, zi_cv 106 1 6 5 1)) (zs_cv (M := 77) (pc := 2) (M' := 106) (k := 1) (kd := 1) (ci := 6) (q := (RX6, TX6, 14)) (zd_eq zk77 (by decide +kernel : decode cX6_ahead 2 = .ok (.invokevirtual 133, 3))) zWd106 (zl_m zo77 zy106 zw_459) (zl_i zy106 zw_461) (zl_e zy106 zw_9) (by decide) rfl (by rw [zo106])) <|
  zcons (a := (5, zi_b1 (fun x => x = 0) 25 8)) (zs_ifeq (M := 77) (pc := 5) (zd_eq zk77 (by decide +kernel : decode cX6_ahead 5 = .ok (.ifCond .eq 20, 3))) (by decide)) <|
  zcons (a := (8, zi_il 2 9)) (zs_il_n (M := 77) (pc := 8) (zd_eq zk77 (by decide +kernel : decode cX6_ahead 8 = .ok (.iload_n 2, 1)))) <|
  zcons (a := (9, zi_k (.int 60) 11)) (zs_bipush (M := 77) (pc := 9) (zd_eq zk77 (by decide +kernel : decode cX6_ahead 9 = .ok (.bipush 60, 2))) (by decide)) <|
  zcons (a := (11, zi_cs 105 2 14 1)) (zs_cs (M := 77) (pc := 11) (M' := 105) (k := 2) (kd := 1) (zd_eq zk77 (by decide +kernel : decode cX6_ahead 11 = .ok (.invokestatic 67, 3))) zWd105 (zl_m zo77 zy105 zw_280) (zl_s zy105 zw_281)) <|
  zcons (a := (14, zi_b1 (fun x => x = 0) 25 17)) (zs_ifeq (M := 77) (pc := 14) (zd_eq zk77 (by decide +kernel : decode cX6_ahead 14 = .ok (.ifCond .eq 11, 3))) (by decide)) <|
  zcons (a := (17, zi_il 3 18)) (zs_il_n (M := 77) (pc := 17) (zd_eq zk77 (by decide +kernel : decode cX6_ahead 17 = .ok (.iload_n 3, 1)))) <|
  zcons (a := (18, zi_k (.int 1) 19)) (zs_iconst (M := 77) (pc := 18) (zd_eq zk77 (by decide +kernel : decode cX6_ahead 18 = .ok (.iconst 1, 1))) (by decide)) <|
  zcons (a := (19, zi_cs 105 2 22 1)) (zs_cs (M := 77) (pc := 19) (M' := 105) (k := 2) (kd := 1) (zd_eq zk77 (by decide +kernel : decode cX6_ahead 19 = .ok (.invokestatic 67, 3))) zWd105 (zl_m zo77 zy105 zw_280) (zl_s zy105 zw_281)) <|
  zcons (a := (22, zi_b1 (fun x => ¬ x = 0) 27 25)) (zs_ifne (M := 77) (pc := 22) (zd_eq zk77 (by decide +kernel : decode cX6_ahead 22 = .ok (.ifCond .ne 5, 3))) (by decide)) <|
  zcons (a := (25, zi_k (.int (-1)) 26)) (zs_iconst (M := 77) (pc := 25) (zd_eq zk77 (by decide +kernel : decode cX6_ahead 25 = .ok (.iconst (-1), 1))) (by decide)) <|
  zcons (a := (26, zi_ri)) (zs_ri (M := 77) (pc := 26) (zd_eq zk77 (by decide +kernel : decode cX6_ahead 26 = .ok (.ireturn, 1))) rfl) <|
  zcons (a := (27, zi_al 0 28)) (zs_al_n (M := 77) (pc := 27) (zd_eq zk77 (by decide +kernel : decode cX6_ahead 27 = .ok (.aload_n 0, 1)))) <|
  zcons (a := (28, zi_gr 6 1 31)) (zs_gr (M := 77) (pc := 28) (n := 0) (ci := 6) (k := 1) (C := RX6) (T := TX6) (N := 14) (zd_eq zk77 (by decide +kernel : decode cX6_ahead 28 = .ok (.getfield 16, 3))) rfl (by decide) (by decide) zin_6 (zl_f zo77 zw_234)) <|
  zcons (a := (31, zi_al 0 32)) (zs_al_n (M := 77) (pc := 31) (zd_eq zk77 (by decide +kernel : decode cX6_ahead 31 = .ok (.aload_n 0, 1)))) <|
  zcons (a := (32, zi_gr 6 0 35)) (zs_gr (M := 77) (pc := 32) (n := 0) (ci := 6) (k := 0) (C := RX6) (T := TX6) (N := 14) (zd_eq zk77 (by decide +kernel : decode cX6_ahead 32 = .ok (.getfield 10, 3))) rfl (by decide) (by decide) zin_6 (zl_f zo77 zw_233)) <|
  zcons (a := (35, zi_cv 30 1 1 38 0)) (zs_cv (M := 77) (pc := 35) (M' := 30) (k := 1) (kd := 0) (ci := 1) (q := (RX1, TX1, 4)) (zd_eq zk77 (by decide +kernel : decode cX6_ahead 35 = .ok (.invokevirtual 100, 3))) zWd30 (zl_m zo77 zy30 zw_411) (zl_i zy30 zw_412) (zl_e zy30 zw_413) (by decide) rfl (by rw [zo30])) <|
  zcons (a := (38, zi_al 0 39)) (zs_al_n (M := 77) (pc := 38) (zd_eq zk77 (by decide +kernel : decode cX6_ahead 38 = .ok (.aload_n 0, 1)))) <|
  zcons (a := (39, zi_gr 6 1 42)) (zs_gr (M := 77) (pc := 39) (n := 0) (ci := 6) (k := 1) (C := RX6) (T := TX6) (N := 14) (zd_eq zk77 (by decide +kernel : decode cX6_ahead 39 = .ok (.getfield 16, 3))) rfl (by decide) (by decide) zin_6 (zl_f zo77 zw_234)) <|
  zcons (a := (42, zi_il 2 43)) (zs_il_n (M := 77) (pc := 42) (zd_eq zk77 (by decide +kernel : decode cX6_ahead 42 = .ok (.iload_n 2, 1)))) <|
  zcons (a := (43, zi_cv 33 1 1 46 0)) (zs_cv (M := 77) (pc := 43) (M' := 33) (k := 1) (kd := 0) (ci := 1) (q := (RX1, TX1, 4)) (zd_eq zk77 (by decide +kernel : decode cX6_ahead 43 = .ok (.invokevirtual 184, 3))) zWd33 (zl_m zo77 zy33 zw_527) (zl_i zy33 zw_528) (zl_e zy33 zw_529) (by decide) rfl (by rw [zo33])) <|
  zcons (a := (46, zi_al 0 47)) (zs_al_n (M := 77) (pc := 46) (zd_eq zk77 (by decide +kernel : decode cX6_ahead 46 = .ok (.aload_n 0, 1)))) <| znil
theorem zS77_1 : ∀ q ∈ zm_c77_1, zm_Snd 77 q.1 q.2 :=
  zcons (a := (47, zi_gr 6 1 50)) (zs_gr (M := 77) (pc := 47) (n := 0) (ci := 6) (k := 1) (C := RX6) (T := TX6) (N := 14) (zd_eq zk77 (by decide +kernel : decode cX6_ahead 47 = .ok (.getfield 16, 3))) rfl (by decide) (by decide) zin_6 (zl_f zo77 zw_234)) <|
  zcons (a := (50, zi_gr 1 0 53)) (zs_gr (M := 77) (pc := 50) (n := 0) (ci := 1) (k := 0) (C := RX1) (T := TX1) (N := 4) (zd_eq zk77 (by decide +kernel : decode cX6_ahead 50 = .ok (.getfield 110, 3))) rfl (by decide) (by decide) zin_1 (zl_f zo77 zw_123)) <|
  zcons (a := (53, zi_gr 2 0 56)) (zs_gr (M := 77) (pc := 53) (n := 0) (ci := 2) (k := 0) (C := RX2) (T := TX2) (N := 2) (zd_eq zk77 (by decide +kernel : decode cX6_ahead 53 = .ok (.getfield 137, 3))) rfl (by decide) (by decide) zin_2 (zl_f zo77 zw_108)) <|
  zcons (a := (56, zi_il 1 57)) (zs_il_n (M := 77) (pc := 56) (zd_eq zk77 (by decide +kernel : decode cX6_ahead 56 = .ok (.iload_n 1, 1)))) <|
  zcons (a := (57, zi_qld 3 58)) (zs_qld (M := 77) (pc := 57) (t := 3) rfl (zd_eq zk77 (by decide +kernel : decode cX6_ahead 57 = .ok (.aaload, 1)))) <|
  zcons (a := (58, zi_il 3 59)) (zs_il_n (M := 77) (pc := 58) (zd_eq zk77 (by decide +kernel : decode cX6_ahead 58 = .ok (.iload_n 3, 1)))) <|
  zcons (a := (59, zi_b1 (fun x => ¬ x = 0) 66 62)) (zs_ifne (M := 77) (pc := 59) (zd_eq zk77 (by decide +kernel : decode cX6_ahead 59 = .ok (.ifCond .ne 7, 3))) (by decide)) <|
  zcons (a := (62, zi_k (.int 1) 63)) (zs_iconst (M := 77) (pc := 62) (zd_eq zk77 (by decide +kernel : decode cX6_ahead 62 = .ok (.iconst 1, 1))) (by decide)) <|
  zcons (a := (63, zi_go 67)) (zs_goto (M := 77) (pc := 63) (zd_eq zk77 (by decide +kernel : decode cX6_ahead 63 = .ok (.goto 4, 3))) (by decide)) <|
  zcons (a := (66, zi_k (.int 2) 67)) (zs_iconst (M := 77) (pc := 66) (zd_eq zk77 (by decide +kernel : decode cX6_ahead 66 = .ok (.iconst 2, 1))) (by decide)) <|
  zcons (a := (67, zi_cv 11 1 0 70 1)) (zs_cv (M := 77) (pc := 67) (M' := 11) (k := 1) (kd := 1) (ci := 0) (q := (RX0, TX0, 3)) (zd_eq zk77 (by decide +kernel : decode cX6_ahead 67 = .ok (.invokevirtual 157, 3))) zWd11 (zl_m zo77 zy11 zw_475) (zl_i zy11 zw_476) (zl_e zy11 zw_477) (by decide) rfl (by rw [zo11])) <|
  zcons (a := (70, zi_ri)) (zs_ri (M := 77) (pc := 70) (zd_eq zk77 (by decide +kernel : decode cX6_ahead 70 = .ok (.ireturn, 1))) rfl) <| znil
theorem zS77 : ∀ pc, zm_Snd 77 pc (zm_lk2 zm_c77 pc) := zlk2 (zcons2 zS77_0 (zcons2 zS77_1 (znil2)))
theorem zS78_0 : ∀ q ∈ zm_c78_0, zm_Snd 78 q.1 q.2 :=
  zcons (a := (0, zi_al 0 1)) (zs_al_n (M := 78) (pc := 0) (zd_eq zk78 (by decide +kernel : decode cX6_falls 0 = .ok (.aload_n 0, 1)))) <|
  zcons (a := (1, zi_il 1 2)) (zs_il_n (M := 78) (pc := 1) (zd_eq zk78 (by decide +kernel : decode cX6_falls 1 = .ok (.iload_n 1, 1)))) <|
  zcons (a := (2, zi_cv 106 1 6 5 1)) (zs_cv (M := 78) (pc := 2) (M' := 106) (k := 1) (kd := 1) (ci := 6) (q := (RX6, TX6, 14)) (zd_eq zk78 (by decide +kernel : decode cX6_falls 2 = .ok (.invokevirtual 133, 3))) zWd106 (zl_m zo78 zy106 zw_459) (zl_i zy106 zw_461) (zl_e zy106 zw_9) (by decide) rfl (by rw [zo106])) <|
  zcons (a := (5, zi_b1 (fun x => ¬ x = 0) 10 8)) (zs_ifne (M := 78) (pc := 5) (zd_eq zk78 (by decide +kernel : decode cX6_falls 5 = .ok (.ifCond .ne 5, 3))) (by decide)) <|
  zcons (a := (8, zi_k (.int (-1)) 9)) (zs_iconst (M := 78) (pc := 8) (zd_eq zk78 (by decide +kernel : decode cX6_falls 8 = .ok (.iconst (-1), 1))) (by decide)) <|
  zcons (a := (9, zi_ri)) (zs_ri (M := 78) (pc := 9) (zd_eq zk78 (by decide +kernel : decode cX6_falls 9 = .ok (.ireturn, 1))) rfl) <|
  zcons (a := (10, zi_al 0 11)) (zs_al_n (M := 78) (pc := 10) (zd_eq zk78 (by decide +kernel : decode cX6_falls 10 = .ok (.aload_n 0, 1)))) <|
  zcons (a := (11, zi_gr 6 2 14)) (zs_gr (M := 78) (pc := 11) (n := 0) (ci := 6) (k := 2) (C := RX6) (T := TX6) (N := 14) (zd_eq zk78 (by decide +kernel : decode cX6_falls 11 = .ok (.getfield 22, 3))) rfl (by decide) (by decide) zin_6 (zl_f zo78 zw_235)) <|
  zcons (a := (14, zi_al 0 15)) (zs_al_n (M := 78) (pc := 14) (zd_eq zk78 (by decide +kernel : decode cX6_falls 14 = .ok (.aload_n 0, 1)))) <|
  zcons (a := (15, zi_gr 6 0 18)) (zs_gr (M := 78) (pc := 15) (n := 0) (ci := 6) (k := 0) (C := RX6) (T := TX6) (N := 14) (zd_eq zk78 (by decide +kernel : decode cX6_falls 15 = .ok (.getfield 10, 3))) rfl (by decide) (by decide) zin_6 (zl_f zo78 zw_233)) <|
  zcons (a := (18, zi_gr 1 0 21)) (zs_gr (M := 78) (pc := 18) (n := 0) (ci := 1) (k := 0) (C := RX1) (T := TX1) (N := 4) (zd_eq zk78 (by decide +kernel : decode cX6_falls 18 = .ok (.getfield 110, 3))) rfl (by decide) (by decide) zin_1 (zl_f zo78 zw_123)) <|
  zcons (a := (21, zi_gr 2 0 24)) (zs_gr (M := 78) (pc := 21) (n := 0) (ci := 2) (k := 0) (C := RX2) (T := TX2) (N := 2) (zd_eq zk78 (by decide +kernel : decode cX6_falls 21 = .ok (.getfield 137, 3))) rfl (by decide) (by decide) zin_2 (zl_f zo78 zw_108)) <|
  zcons (a := (24, zi_il 1 25)) (zs_il_n (M := 78) (pc := 24) (zd_eq zk78 (by decide +kernel : decode cX6_falls 24 = .ok (.iload_n 1, 1)))) <|
  zcons (a := (25, zi_qld 3 26)) (zs_qld (M := 78) (pc := 25) (t := 3) rfl (zd_eq zk78 (by decide +kernel : decode cX6_falls 25 = .ok (.aaload, 1)))) <|
  zcons (a := (26, zi_cv 10 1 0 29 0)) (zs_cv (M := 78) (pc := 26) (M' := 10) (k := 1) (kd := 0) (ci := 0) (q := (RX0, TX0, 3)) (zd_eq zk78 (by decide +kernel : decode cX6_falls 26 = .ok (.invokevirtual 196, 3))) zWd10 (zl_m zo78 zy10 zw_592) (zl_i zy10 zw_420) (zl_e zy10 zw_421) (by decide) rfl (by rw [zo10])) <|
  zcons (a := (29, zi_al 0 30)) (zs_al_n (M := 78) (pc := 29) (zd_eq zk78 (by decide +kernel : decode cX6_falls 29 = .ok (.aload_n 0, 1)))) <|
  zcons (a := (30, zi_cv 111 0 6 33 1)) (zs_cv (M := 78) (pc := 30) (M' := 111) (k := 0) (kd := 1) (ci := 6) (q := (RX6, TX6, 14)) (zd_eq zk78 (by decide +kernel : decode cX6_falls 30 = .ok (.invokevirtual 199, 3))) zWd111 (zl_m zo78 zy111 zw_593) (zl_i zy111 zw_595) (zl_e zy111 zw_11) (by decide) rfl (by rw [zo111])) <|
  zcons (a := (33, zi_is 2 34)) (zs_is_n (M := 78) (pc := 33) (zd_eq zk78 (by decide +kernel : decode cX6_falls 33 = .ok (.istore_n 2, 1))) (by decide +kernel) (by decide +kernel)) <|
  zcons (a := (34, zi_il 2 35)) (zs_il_n (M := 78) (pc := 34) (zd_eq zk78 (by decide +kernel : decode cX6_falls 34 = .ok (.iload_n 2, 1)))) <|
  zcons (a := (35, zi_k (.int 61) 37)) (zs_bipush (M := 78) (pc := 35) (zd_eq zk78 (by decide +kernel : decode cX6_falls 35 = .ok (.bipush 61, 2))) (by decide)) <|
  zcons (a := (37, zi_b2 (fun x y => ¬ x = y) 45 40)) (zs_icmpne (M := 78) (pc := 37) (zd_eq zk78 (by decide +kernel : decode cX6_falls 37 = .ok (.if_icmp .ne 8, 3))) (by decide)) <|
  zcons (a := (40, zi_k (.int (-4)) 42)) (zs_bipush (M := 78) (pc := 40) (zd_eq zk78 (by decide +kernel : decode cX6_falls 40 = .ok (.bipush (-4), 2))) (by decide)) <|
  zcons (a := (42, zi_go 46)) (zs_goto (M := 78) (pc := 42) (zd_eq zk78 (by decide +kernel : decode cX6_falls 42 = .ok (.goto 4, 3))) (by decide)) <|
  zcons (a := (45, zi_il 2 46)) (zs_il_n (M := 78) (pc := 45) (zd_eq zk78 (by decide +kernel : decode cX6_falls 45 = .ok (.iload_n 2, 1)))) <| znil
theorem zS78_1 : ∀ q ∈ zm_c78_1, zm_Snd 78 q.1 q.2 :=
  zcons (a := (46, zi_ri)) (zs_ri (M := 78) (pc := 46) (zd_eq zk78 (by decide +kernel : decode cX6_falls 46 = .ok (.ireturn, 1))) rfl) <| znil
theorem zS78 : ∀ pc, zm_Snd 78 pc (zm_lk2 zm_c78 pc) := zlk2 (zcons2 zS78_0 (zcons2 zS78_1 (znil2)))
theorem zS79_0 : ∀ q ∈ zm_c79_0, zm_Snd 79 q.1 q.2 :=
  zcons (a := (0, zi_al 0 1)) (zs_al_n (M := 79) (pc := 0) (zd_eq zk79 (by decide +kernel : decode cX6_reign 0 = .ok (.aload_n 0, 1)))) <|
  zcons (a := (1, zi_il 1 2)) (zs_il_n (M := 79) (pc := 1) (zd_eq zk79 (by decide +kernel : decode cX6_reign 1 = .ok (.iload_n 1, 1)))) <|
  zcons (a := (2, zi_cv 106 1 6 5 1)) (zs_cv (M := 79) (pc := 2) (M' := 106) (k := 1) (kd := 1) (ci := 6) (q := (RX6, TX6, 14)) (zd_eq zk79 (by decide +kernel : decode cX6_reign 2 = .ok (.invokevirtual 133, 3))) zWd106 (zl_m zo79 zy106 zw_459) (zl_i zy106 zw_461) (zl_e zy106 zw_9) (by decide) rfl (by rw [zo106])) <|
  zcons (a := (5, zi_b1 (fun x => x = 0) 27 8)) (zs_ifeq (M := 79) (pc := 5) (zd_eq zk79 (by decide +kernel : decode cX6_reign 5 = .ok (.ifCond .eq 22, 3))) (by decide)) <|
  zcons (a := (8, zi_il 2 9)) (zs_il_n (M := 79) (pc := 8) (zd_eq zk79 (by decide +kernel : decode cX6_reign 8 = .ok (.iload_n 2, 1)))) <|
  zcons (a := (9, zi_k (.int 1) 10)) (zs_iconst (M := 79) (pc := 9) (zd_eq zk79 (by decide +kernel : decode cX6_reign 9 = .ok (.iconst 1, 1))) (by decide)) <|
  zcons (a := (10, zi_b2 (fun x y => x < y) 27 13)) (zs_icmplt (M := 79) (pc := 10) (zd_eq zk79 (by decide +kernel : decode cX6_reign 10 = .ok (.if_icmp .lt 17, 3))) (by decide)) <|
  zcons (a := (13, zi_il 2 14)) (zs_il_n (M := 79) (pc := 13) (zd_eq zk79 (by decide +kernel : decode cX6_reign 13 = .ok (.iload_n 2, 1)))) <|
  zcons (a := (14, zi_k (.int 60) 16)) (zs_bipush (M := 79) (pc := 14) (zd_eq zk79 (by decide +kernel : decode cX6_reign 14 = .ok (.bipush 60, 2))) (by decide)) <|
  zcons (a := (16, zi_b2 (fun x y => y < x) 27 19)) (zs_icmpgt (M := 79) (pc := 16) (zd_eq zk79 (by decide +kernel : decode cX6_reign 16 = .ok (.if_icmp .gt 11, 3))) (by decide)) <|
  zcons (a := (19, zi_il 3 20)) (zs_il_n (M := 79) (pc := 19) (zd_eq zk79 (by decide +kernel : decode cX6_reign 19 = .ok (.iload_n 3, 1)))) <|
  zcons (a := (20, zi_k (.int 1) 21)) (zs_iconst (M := 79) (pc := 20) (zd_eq zk79 (by decide +kernel : decode cX6_reign 20 = .ok (.iconst 1, 1))) (by decide)) <|
  zcons (a := (21, zi_cs 105 2 24 1)) (zs_cs (M := 79) (pc := 21) (M' := 105) (k := 2) (kd := 1) (zd_eq zk79 (by decide +kernel : decode cX6_reign 21 = .ok (.invokestatic 67, 3))) zWd105 (zl_m zo79 zy105 zw_280) (zl_s zy105 zw_281)) <|
  zcons (a := (24, zi_b1 (fun x => ¬ x = 0) 31 27)) (zs_ifne (M := 79) (pc := 24) (zd_eq zk79 (by decide +kernel : decode cX6_reign 24 = .ok (.ifCond .ne 7, 3))) (by decide)) <|
  zcons (a := (27, zi_k (.long (-1)) 30)) (zs_ldc2 (M := 79) (pc := 27) (zd_eq zk79 (by decide +kernel : decode cX6_reign 27 = .ok (.ldc2_w 202, 3))) (zl_k2 zo79 zw_602)) <|
  zcons (a := (30, zi_rl)) (zs_rl (M := 79) (pc := 30) (zd_eq zk79 (by decide +kernel : decode cX6_reign 30 = .ok (.lreturn, 1))) rfl) <|
  zcons (a := (31, zi_al 0 32)) (zs_al_n (M := 79) (pc := 31) (zd_eq zk79 (by decide +kernel : decode cX6_reign 31 = .ok (.aload_n 0, 1)))) <|
  zcons (a := (32, zi_gr 6 1 35)) (zs_gr (M := 79) (pc := 32) (n := 0) (ci := 6) (k := 1) (C := RX6) (T := TX6) (N := 14) (zd_eq zk79 (by decide +kernel : decode cX6_reign 32 = .ok (.getfield 16, 3))) rfl (by decide) (by decide) zin_6 (zl_f zo79 zw_234)) <|
  zcons (a := (35, zi_al 0 36)) (zs_al_n (M := 79) (pc := 35) (zd_eq zk79 (by decide +kernel : decode cX6_reign 35 = .ok (.aload_n 0, 1)))) <|
  zcons (a := (36, zi_gr 6 0 39)) (zs_gr (M := 79) (pc := 36) (n := 0) (ci := 6) (k := 0) (C := RX6) (T := TX6) (N := 14) (zd_eq zk79 (by decide +kernel : decode cX6_reign 36 = .ok (.getfield 10, 3))) rfl (by decide) (by decide) zin_6 (zl_f zo79 zw_233)) <|
  zcons (a := (39, zi_cv 30 1 1 42 0)) (zs_cv (M := 79) (pc := 39) (M' := 30) (k := 1) (kd := 0) (ci := 1) (q := (RX1, TX1, 4)) (zd_eq zk79 (by decide +kernel : decode cX6_reign 39 = .ok (.invokevirtual 100, 3))) zWd30 (zl_m zo79 zy30 zw_411) (zl_i zy30 zw_412) (zl_e zy30 zw_413) (by decide) rfl (by rw [zo30])) <|
  zcons (a := (42, zi_al 0 43)) (zs_al_n (M := 79) (pc := 42) (zd_eq zk79 (by decide +kernel : decode cX6_reign 42 = .ok (.aload_n 0, 1)))) <|
  zcons (a := (43, zi_gr 6 1 46)) (zs_gr (M := 79) (pc := 43) (n := 0) (ci := 6) (k := 1) (C := RX6) (T := TX6) (N := 14) (zd_eq zk79 (by decide +kernel : decode cX6_reign 43 = .ok (.getfield 16, 3))) rfl (by decide) (by decide) zin_6 (zl_f zo79 zw_234)) <|
  zcons (a := (46, zi_il 1 47)) (zs_il_n (M := 79) (pc := 46) (zd_eq zk79 (by decide +kernel : decode cX6_reign 46 = .ok (.iload_n 1, 1)))) <| znil
theorem zS79_1 : ∀ q ∈ zm_c79_1, zm_Snd 79 q.1 q.2 :=
  zcons (a := (47, zi_il 2 48)) (zs_il_n (M := 79) (pc := 47) (zd_eq zk79 (by decide +kernel : decode cX6_reign 47 = .ok (.iload_n 2, 1)))) <|
  zcons (a := (48, zi_cv 35 2 1 51 1)) (zs_cv (M := 79) (pc := 48) (M' := 35) (k := 2) (kd := 1) (ci := 1) (q := (RX1, TX1, 4)) (zd_eq zk79 (by decide +kernel : decode cX6_reign 48 = .ok (.invokevirtual 204, 3))) zWd35 (zl_m zo79 zy35 zw_603) (zl_i zy35 zw_576) (zl_e zy35 zw_577) (by decide) rfl (by rw [zo35])) <|
  zcons (a := (51, zi_i2l 52)) (zs_i2l (M := 79) (pc := 51) (zd_eq zk79 (by decide +kernel : decode cX6_reign 51 = .ok (.i2l, 1)))) <|
  zcons (a := (52, zi_il 2 53)) (zs_il_n (M := 79) (pc := 52) (zd_eq zk79 (by decide +kernel : decode cX6_reign 52 = .ok (.iload_n 2, 1)))) <|
  zcons (a := (53, zi_i2l 54)) (zs_i2l (M := 79) (pc := 53) (zd_eq zk79 (by decide +kernel : decode cX6_reign 53 = .ok (.i2l, 1)))) <|
  zcons (a := (54, zi_il 3 55)) (zs_il_n (M := 79) (pc := 54) (zd_eq zk79 (by decide +kernel : decode cX6_reign 54 = .ok (.iload_n 3, 1)))) <|
  zcons (a := (55, zi_cs 109 3 58 2)) (zs_cs (M := 79) (pc := 55) (M' := 109) (k := 3) (kd := 2) (zd_eq zk79 (by decide +kernel : decode cX6_reign 55 = .ok (.invokestatic 207, 3))) zWd109 (zl_m zo79 zy109 zw_604) (zl_s zy109 zw_605)) <|
  zcons (a := (58, zi_rl)) (zs_rl (M := 79) (pc := 58) (zd_eq zk79 (by decide +kernel : decode cX6_reign 58 = .ok (.lreturn, 1))) rfl) <| znil
theorem zS79 : ∀ pc, zm_Snd 79 pc (zm_lk2 zm_c79 pc) := zlk2 (zcons2 zS79_0 (zcons2 zS79_1 (znil2)))
theorem zS80_0 : ∀ q ∈ zm_c80_0, zm_Snd 80 q.1 q.2 :=
  zcons (a := (0, zi_il 1 1)) (zs_il_n (M := 80) (pc := 0) (zd_eq zk80 (by decide +kernel : decode cX6_decree 0 = .ok (.iload_n 1, 1)))) <|
  zcons (a := (1, zi_k (.int 60) 3)) (zs_bipush (M := 80) (pc := 1) (zd_eq zk80 (by decide +kernel : decode cX6_decree 1 = .ok (.bipush 60, 2))) (by decide)) <|
  zcons (a := (3, zi_cs 105 2 6 1)) (zs_cs (M := 80) (pc := 3) (M' := 105) (k := 2) (kd := 1) (zd_eq zk80 (by decide +kernel : decode cX6_decree 3 = .ok (.invokestatic 67, 3))) zWd105 (zl_m zo80 zy105 zw_280) (zl_s zy105 zw_281)) <|
  zcons (a := (6, zi_b1 (fun x => ¬ x = 0) 11 9)) (zs_ifne (M := 80) (pc := 6) (zd_eq zk80 (by decide +kernel : decode cX6_decree 6 = .ok (.ifCond .ne 5, 3))) (by decide)) <|
  zcons (a := (9, zi_k (.int (-1)) 10)) (zs_iconst (M := 80) (pc := 9) (zd_eq zk80 (by decide +kernel : decode cX6_decree 9 = .ok (.iconst (-1), 1))) (by decide)) <|
  zcons (a := (10, zi_ri)) (zs_ri (M := 80) (pc := 10) (zd_eq zk80 (by decide +kernel : decode cX6_decree 10 = .ok (.ireturn, 1))) rfl) <|
  zcons (a := (11, zi_al 0 12)) (zs_al_n (M := 80) (pc := 11) (zd_eq zk80 (by decide +kernel : decode cX6_decree 11 = .ok (.aload_n 0, 1)))) <|
  zcons (a := (12, zi_gr 6 1 15)) (zs_gr (M := 80) (pc := 12) (n := 0) (ci := 6) (k := 1) (C := RX6) (T := TX6) (N := 14) (zd_eq zk80 (by decide +kernel : decode cX6_decree 12 = .ok (.getfield 16, 3))) rfl (by decide) (by decide) zin_6 (zl_f zo80 zw_234)) <|
  zcons (a := (15, zi_al 0 16)) (zs_al_n (M := 80) (pc := 15) (zd_eq zk80 (by decide +kernel : decode cX6_decree 15 = .ok (.aload_n 0, 1)))) <|
  zcons (a := (16, zi_gr 6 0 19)) (zs_gr (M := 80) (pc := 16) (n := 0) (ci := 6) (k := 0) (C := RX6) (T := TX6) (N := 14) (zd_eq zk80 (by decide +kernel : decode cX6_decree 16 = .ok (.getfield 10, 3))) rfl (by decide) (by decide) zin_6 (zl_f zo80 zw_233)) <|
  zcons (a := (19, zi_cv 30 1 1 22 0)) (zs_cv (M := 80) (pc := 19) (M' := 30) (k := 1) (kd := 0) (ci := 1) (q := (RX1, TX1, 4)) (zd_eq zk80 (by decide +kernel : decode cX6_decree 19 = .ok (.invokevirtual 100, 3))) zWd30 (zl_m zo80 zy30 zw_411) (zl_i zy30 zw_412) (zl_e zy30 zw_413) (by decide) rfl (by rw [zo30])) <|
  zcons (a := (22, zi_al 0 23)) (zs_al_n (M := 80) (pc := 22) (zd_eq zk80 (by decide +kernel : decode cX6_decree 22 = .ok (.aload_n 0, 1)))) <|
  zcons (a := (23, zi_gr 6 1 26)) (zs_gr (M := 80) (pc := 23) (n := 0) (ci := 6) (k := 1) (C := RX6) (T := TX6) (N := 14) (zd_eq zk80 (by decide +kernel : decode cX6_decree 23 = .ok (.getfield 16, 3))) rfl (by decide) (by decide) zin_6 (zl_f zo80 zw_234)) <|
  zcons (a := (26, zi_il 1 27)) (zs_il_n (M := 80) (pc := 26) (zd_eq zk80 (by decide +kernel : decode cX6_decree 26 = .ok (.iload_n 1, 1)))) <|
  zcons (a := (27, zi_cv 33 1 1 30 0)) (zs_cv (M := 80) (pc := 27) (M' := 33) (k := 1) (kd := 0) (ci := 1) (q := (RX1, TX1, 4)) (zd_eq zk80 (by decide +kernel : decode cX6_decree 27 = .ok (.invokevirtual 184, 3))) zWd33 (zl_m zo80 zy33 zw_527) (zl_i zy33 zw_528) (zl_e zy33 zw_529) (by decide) rfl (by rw [zo33])) <|
  zcons (a := (30, zi_al 0 31)) (zs_al_n (M := 80) (pc := 30) (zd_eq zk80 (by decide +kernel : decode cX6_decree 30 = .ok (.aload_n 0, 1)))) <|
  zcons (a := (31, zi_gr 6 1 34)) (zs_gr (M := 80) (pc := 31) (n := 0) (ci := 6) (k := 1) (C := RX6) (T := TX6) (N := 14) (zd_eq zk80 (by decide +kernel : decode cX6_decree 31 = .ok (.getfield 16, 3))) rfl (by decide) (by decide) zin_6 (zl_f zo80 zw_234)) <|
  zcons (a := (34, zi_gr 1 0 37)) (zs_gr (M := 80) (pc := 34) (n := 0) (ci := 1) (k := 0) (C := RX1) (T := TX1) (N := 4) (zd_eq zk80 (by decide +kernel : decode cX6_decree 34 = .ok (.getfield 110, 3))) rfl (by decide) (by decide) zin_1 (zl_f zo80 zw_123)) <|
  zcons (a := (37, zi_cv 23 0 2 40 1)) (zs_cv (M := 80) (pc := 37) (M' := 23) (k := 0) (kd := 1) (ci := 2) (q := (RX2, TX2, 2)) (zd_eq zk80 (by decide +kernel : decode cX6_decree 37 = .ok (.invokevirtual 124, 3))) zWd23 (zl_m zo80 zy23 zw_442) (zl_i zy23 zw_443) (zl_e zy23 zw_444) (by decide) rfl (by rw [zo23])) <|
  zcons (a := (40, zi_ri)) (zs_ri (M := 80) (pc := 40) (zd_eq zk80 (by decide +kernel : decode cX6_decree 40 = .ok (.ireturn, 1))) rfl) <| znil
theorem zS80 : ∀ pc, zm_Snd 80 pc (zm_lk2 zm_c80 pc) := zlk2 (zcons2 zS80_0 (znil2))
theorem zS81_0 : ∀ q ∈ zm_c81_0, zm_Snd 81 q.1 q.2 :=
  zcons (a := (0, zi_al 0 1)) (zs_al_n (M := 81) (pc := 0) (zd_eq zk81 (by decide +kernel : decode cX6_coup 0 = .ok (.aload_n 0, 1)))) <|
  zcons (a := (1, zi_gr 6 1 4)) (zs_gr (M := 81) (pc := 1) (n := 0) (ci := 6) (k := 1) (C := RX6) (T := TX6) (N := 14) (zd_eq zk81 (by decide +kernel : decode cX6_coup 1 = .ok (.getfield 16, 3))) rfl (by decide) (by decide) zin_6 (zl_f zo81 zw_234)) <|
  zcons (a := (4, zi_al 0 5)) (zs_al_n (M := 81) (pc := 4) (zd_eq zk81 (by decide +kernel : decode cX6_coup 4 = .ok (.aload_n 0, 1)))) <|
  zcons (a := (5, zi_gr 6 0 8)) (zs_gr (M := 81) (pc := 5) (n := 0) (ci := 6) (k := 0) (C := RX6) (T := TX6) (N := 14) (zd_eq zk81 (by decide +kernel : decode cX6_coup 5 = .ok (.getfield 10, 3))) rfl (by decide) (by decide) zin_6 (zl_f zo81 zw_233)) <|
  zcons (a := (8, zi_cv 30 1 1 11 0)) (zs_cv (M := 81) (pc := 8) (M' := 30) (k := 1) (kd := 0) (ci := 1) (q := (RX1, TX1, 4)) (zd_eq zk81 (by decide +kernel : decode cX6_coup 8 = .ok (.invokevirtual 100, 3))) zWd30 (zl_m zo81 zy30 zw_411) (zl_i zy30 zw_412) (zl_e zy30 zw_413) (by decide) rfl (by rw [zo30])) <|
  zcons (a := (11, zi_al 0 12)) (zs_al_n (M := 81) (pc := 11) (zd_eq zk81 (by decide +kernel : decode cX6_coup 11 = .ok (.aload_n 0, 1)))) <|
  zcons (a := (12, zi_gr 6 1 15)) (zs_gr (M := 81) (pc := 12) (n := 0) (ci := 6) (k := 1) (C := RX6) (T := TX6) (N := 14) (zd_eq zk81 (by decide +kernel : decode cX6_coup 12 = .ok (.getfield 16, 3))) rfl (by decide) (by decide) zin_6 (zl_f zo81 zw_234)) <|
  zcons (a := (15, zi_gr 1 0 18)) (zs_gr (M := 81) (pc := 15) (n := 0) (ci := 1) (k := 0) (C := RX1) (T := TX1) (N := 4) (zd_eq zk81 (by decide +kernel : decode cX6_coup 15 = .ok (.getfield 110, 3))) rfl (by decide) (by decide) zin_1 (zl_f zo81 zw_123)) <|
  zcons (a := (18, zi_cv 22 0 2 21 1)) (zs_cv (M := 81) (pc := 18) (M' := 22) (k := 0) (kd := 1) (ci := 2) (q := (RX2, TX2, 2)) (zd_eq zk81 (by decide +kernel : decode cX6_coup 18 = .ok (.invokevirtual 120, 3))) zWd22 (zl_m zo81 zy22 zw_434) (zl_i zy22 zw_435) (zl_e zy22 zw_436) (by decide) rfl (by rw [zo22])) <|
  zcons (a := (21, zi_is 1 22)) (zs_is_n (M := 81) (pc := 21) (zd_eq zk81 (by decide +kernel : decode cX6_coup 21 = .ok (.istore_n 1, 1))) (by decide +kernel) (by decide +kernel)) <|
  zcons (a := (22, zi_k (.int 1) 23)) (zs_iconst (M := 81) (pc := 22) (zd_eq zk81 (by decide +kernel : decode cX6_coup 22 = .ok (.iconst 1, 1))) (by decide)) <|
  zcons (a := (23, zi_is 2 24)) (zs_is_n (M := 81) (pc := 23) (zd_eq zk81 (by decide +kernel : decode cX6_coup 23 = .ok (.istore_n 2, 1))) (by decide +kernel) (by decide +kernel)) <|
  zcons (a := (24, zi_il 2 25)) (zs_il_n (M := 81) (pc := 24) (zd_eq zk81 (by decide +kernel : decode cX6_coup 24 = .ok (.iload_n 2, 1)))) <|
  zcons (a := (25, zi_k (.int 60) 27)) (zs_bipush (M := 81) (pc := 25) (zd_eq zk81 (by decide +kernel : decode cX6_coup 25 = .ok (.bipush 60, 2))) (by decide)) <|
  zcons (a := (27, zi_b2 (fun x y => y < x) 59 30)) (zs_icmpgt (M := 81) (pc := 27) (zd_eq zk81 (by decide +kernel : decode cX6_coup 27 = .ok (.if_icmp .gt 32, 3))) (by decide)) <|
  zcons (a := (30, zi_al 0 31)) (zs_al_n (M := 81) (pc := 30) (zd_eq zk81 (by decide +kernel : decode cX6_coup 30 = .ok (.aload_n 0, 1)))) <|
  zcons (a := (31, zi_gr 6 1 34)) (zs_gr (M := 81) (pc := 31) (n := 0) (ci := 6) (k := 1) (C := RX6) (T := TX6) (N := 14) (zd_eq zk81 (by decide +kernel : decode cX6_coup 31 = .ok (.getfield 16, 3))) rfl (by decide) (by decide) zin_6 (zl_f zo81 zw_234)) <|
  zcons (a := (34, zi_cv 32 0 1 37 0)) (zs_cv (M := 81) (pc := 34) (M' := 32) (k := 0) (kd := 0) (ci := 1) (q := (RX1, TX1, 4)) (zd_eq zk81 (by decide +kernel : decode cX6_coup 34 = .ok (.invokevirtual 211, 3))) zWd32 (zl_m zo81 zy32 zw_615) (zl_i zy32 zw_532) (zl_e zy32 zw_533) (by decide) rfl (by rw [zo32])) <|
  zcons (a := (37, zi_al 0 38)) (zs_al_n (M := 81) (pc := 37) (zd_eq zk81 (by decide +kernel : decode cX6_coup 37 = .ok (.aload_n 0, 1)))) <|
  zcons (a := (38, zi_gr 6 1 41)) (zs_gr (M := 81) (pc := 38) (n := 0) (ci := 6) (k := 1) (C := RX6) (T := TX6) (N := 14) (zd_eq zk81 (by decide +kernel : decode cX6_coup 38 = .ok (.getfield 16, 3))) rfl (by decide) (by decide) zin_6 (zl_f zo81 zw_234)) <|
  zcons (a := (41, zi_gr 1 0 44)) (zs_gr (M := 81) (pc := 41) (n := 0) (ci := 1) (k := 0) (C := RX1) (T := TX1) (N := 4) (zd_eq zk81 (by decide +kernel : decode cX6_coup 41 = .ok (.getfield 110, 3))) rfl (by decide) (by decide) zin_1 (zl_f zo81 zw_123)) <|
  zcons (a := (44, zi_cv 22 0 2 47 1)) (zs_cv (M := 81) (pc := 44) (M' := 22) (k := 0) (kd := 1) (ci := 2) (q := (RX2, TX2, 2)) (zd_eq zk81 (by decide +kernel : decode cX6_coup 44 = .ok (.invokevirtual 120, 3))) zWd22 (zl_m zo81 zy22 zw_434) (zl_i zy22 zw_435) (zl_e zy22 zw_436) (by decide) rfl (by rw [zo22])) <|
  zcons (a := (47, zi_il 1 48)) (zs_il_n (M := 81) (pc := 47) (zd_eq zk81 (by decide +kernel : decode cX6_coup 47 = .ok (.iload_n 1, 1)))) <|
  zcons (a := (48, zi_b2 (fun x y => x = y) 53 51)) (zs_icmpeq (M := 81) (pc := 48) (zd_eq zk81 (by decide +kernel : decode cX6_coup 48 = .ok (.if_icmp .eq 5, 3))) (by decide)) <| znil
theorem zS81_1 : ∀ q ∈ zm_c81_1, zm_Snd 81 q.1 q.2 :=
  zcons (a := (51, zi_il 2 52)) (zs_il_n (M := 81) (pc := 51) (zd_eq zk81 (by decide +kernel : decode cX6_coup 51 = .ok (.iload_n 2, 1)))) <|
  zcons (a := (52, zi_ri)) (zs_ri (M := 81) (pc := 52) (zd_eq zk81 (by decide +kernel : decode cX6_coup 52 = .ok (.ireturn, 1))) rfl) <|
  zcons (a := (53, zi_inc 2 1 56)) (zs_inc (M := 81) (pc := 53) (zd_eq zk81 (by decide +kernel : decode cX6_coup 53 = .ok (.iinc 2 1, 3))) (by decide) (by decide +kernel) (by decide +kernel)) <|
  zcons (a := (56, zi_go 24)) (zs_goto (M := 81) (pc := 56) (zd_eq zk81 (by decide +kernel : decode cX6_coup 56 = .ok (.goto (-32), 3))) (by decide)) <|
  zcons (a := (59, zi_k (.int (-4)) 61)) (zs_bipush (M := 81) (pc := 59) (zd_eq zk81 (by decide +kernel : decode cX6_coup 59 = .ok (.bipush (-4), 2))) (by decide)) <|
  zcons (a := (61, zi_ri)) (zs_ri (M := 81) (pc := 61) (zd_eq zk81 (by decide +kernel : decode cX6_coup 61 = .ok (.ireturn, 1))) rfl) <| znil
theorem zS81 : ∀ pc, zm_Snd 81 pc (zm_lk2 zm_c81 pc) := zlk2 (zcons2 zS81_0 (zcons2 zS81_1 (znil2)))
theorem zS82_0 : ∀ q ∈ zm_c82_0, zm_Snd 82 q.1 q.2 :=
  zcons (a := (0, zi_al 0 1)) (zs_al_n (M := 82) (pc := 0) (zd_eq zk82 (by decide +kernel : decode cX6_need 0 = .ok (.aload_n 0, 1)))) <|
  zcons (a := (1, zi_il 1 2)) (zs_il_n (M := 82) (pc := 1) (zd_eq zk82 (by decide +kernel : decode cX6_need 1 = .ok (.iload_n 1, 1)))) <|
  zcons (a := (2, zi_cv 106 1 6 5 1)) (zs_cv (M := 82) (pc := 2) (M' := 106) (k := 1) (kd := 1) (ci := 6) (q := (RX6, TX6, 14)) (zd_eq zk82 (by decide +kernel : decode cX6_need 2 = .ok (.invokevirtual 133, 3))) zWd106 (zl_m zo82 zy106 zw_459) (zl_i zy106 zw_461) (zl_e zy106 zw_9) (by decide) rfl (by rw [zo106])) <|
  zcons (a := (5, zi_b1 (fun x => x = 0) 17 8)) (zs_ifeq (M := 82) (pc := 5) (zd_eq zk82 (by decide +kernel : decode cX6_need 5 = .ok (.ifCond .eq 12, 3))) (by decide)) <|
  zcons (a := (8, zi_il 2 9)) (zs_il_n (M := 82) (pc := 8) (zd_eq zk82 (by decide +kernel : decode cX6_need 8 = .ok (.iload_n 2, 1)))) <|
  zcons (a := (9, zi_k (.int 60) 11)) (zs_bipush (M := 82) (pc := 9) (zd_eq zk82 (by decide +kernel : decode cX6_need 9 = .ok (.bipush 60, 2))) (by decide)) <|
  zcons (a := (11, zi_cs 105 2 14 1)) (zs_cs (M := 82) (pc := 11) (M' := 105) (k := 2) (kd := 1) (zd_eq zk82 (by decide +kernel : decode cX6_need 11 = .ok (.invokestatic 67, 3))) zWd105 (zl_m zo82 zy105 zw_280) (zl_s zy105 zw_281)) <|
  zcons (a := (14, zi_b1 (fun x => ¬ x = 0) 19 17)) (zs_ifne (M := 82) (pc := 14) (zd_eq zk82 (by decide +kernel : decode cX6_need 14 = .ok (.ifCond .ne 5, 3))) (by decide)) <|
  zcons (a := (17, zi_k (.int (-1)) 18)) (zs_iconst (M := 82) (pc := 17) (zd_eq zk82 (by decide +kernel : decode cX6_need 17 = .ok (.iconst (-1), 1))) (by decide)) <|
  zcons (a := (18, zi_ri)) (zs_ri (M := 82) (pc := 18) (zd_eq zk82 (by decide +kernel : decode cX6_need 18 = .ok (.ireturn, 1))) rfl) <|
  zcons (a := (19, zi_k (.int 0) 20)) (zs_iconst (M := 82) (pc := 19) (zd_eq zk82 (by decide +kernel : decode cX6_need 19 = .ok (.iconst 0, 1))) (by decide)) <|
  zcons (a := (20, zi_is 3 21)) (zs_is_n (M := 82) (pc := 20) (zd_eq zk82 (by decide +kernel : decode cX6_need 20 = .ok (.istore_n 3, 1))) (by decide +kernel) (by decide +kernel)) <|
  zcons (a := (21, zi_il 3 22)) (zs_il_n (M := 82) (pc := 21) (zd_eq zk82 (by decide +kernel : decode cX6_need 21 = .ok (.iload_n 3, 1)))) <|
  zcons (a := (22, zi_k (.int 99) 24)) (zs_bipush (M := 82) (pc := 22) (zd_eq zk82 (by decide +kernel : decode cX6_need 22 = .ok (.bipush 99, 2))) (by decide)) <|
  zcons (a := (24, zi_b2 (fun x y => y < x) 70 27)) (zs_icmpgt (M := 82) (pc := 24) (zd_eq zk82 (by decide +kernel : decode cX6_need 24 = .ok (.if_icmp .gt 46, 3))) (by decide)) <|
  zcons (a := (27, zi_al 0 28)) (zs_al_n (M := 82) (pc := 27) (zd_eq zk82 (by decide +kernel : decode cX6_need 27 = .ok (.aload_n 0, 1)))) <|
  zcons (a := (28, zi_gr 6 2 31)) (zs_gr (M := 82) (pc := 28) (n := 0) (ci := 6) (k := 2) (C := RX6) (T := TX6) (N := 14) (zd_eq zk82 (by decide +kernel : decode cX6_need 28 = .ok (.getfield 22, 3))) rfl (by decide) (by decide) zin_6 (zl_f zo82 zw_235)) <|
  zcons (a := (31, zi_al 0 32)) (zs_al_n (M := 82) (pc := 31) (zd_eq zk82 (by decide +kernel : decode cX6_need 31 = .ok (.aload_n 0, 1)))) <|
  zcons (a := (32, zi_gr 6 0 35)) (zs_gr (M := 82) (pc := 32) (n := 0) (ci := 6) (k := 0) (C := RX6) (T := TX6) (N := 14) (zd_eq zk82 (by decide +kernel : decode cX6_need 32 = .ok (.getfield 10, 3))) rfl (by decide) (by decide) zin_6 (zl_f zo82 zw_233)) <|
  zcons (a := (35, zi_gr 1 0 38)) (zs_gr (M := 82) (pc := 35) (n := 0) (ci := 1) (k := 0) (C := RX1) (T := TX1) (N := 4) (zd_eq zk82 (by decide +kernel : decode cX6_need 35 = .ok (.getfield 110, 3))) rfl (by decide) (by decide) zin_1 (zl_f zo82 zw_123)) <|
  zcons (a := (38, zi_gr 2 0 41)) (zs_gr (M := 82) (pc := 38) (n := 0) (ci := 2) (k := 0) (C := RX2) (T := TX2) (N := 2) (zd_eq zk82 (by decide +kernel : decode cX6_need 38 = .ok (.getfield 137, 3))) rfl (by decide) (by decide) zin_2 (zl_f zo82 zw_108)) <|
  zcons (a := (41, zi_il 1 42)) (zs_il_n (M := 82) (pc := 41) (zd_eq zk82 (by decide +kernel : decode cX6_need 41 = .ok (.iload_n 1, 1)))) <|
  zcons (a := (42, zi_qld 3 43)) (zs_qld (M := 82) (pc := 42) (t := 3) rfl (zd_eq zk82 (by decide +kernel : decode cX6_need 42 = .ok (.aaload, 1)))) <|
  zcons (a := (43, zi_cv 10 1 0 46 0)) (zs_cv (M := 82) (pc := 43) (M' := 10) (k := 1) (kd := 0) (ci := 0) (q := (RX0, TX0, 3)) (zd_eq zk82 (by decide +kernel : decode cX6_need 43 = .ok (.invokevirtual 196, 3))) zWd10 (zl_m zo82 zy10 zw_592) (zl_i zy10 zw_420) (zl_e zy10 zw_421) (by decide) rfl (by rw [zo10])) <| znil
theorem zS82_1 : ∀ q ∈ zm_c82_1, zm_Snd 82 q.1 q.2 :=
  zcons (a := (46, zi_al 0 47)) (zs_al_n (M := 82) (pc := 46) (zd_eq zk82 (by decide +kernel : decode cX6_need 46 = .ok (.aload_n 0, 1)))) <|
  zcons (a := (47, zi_gr 6 2 50)) (zs_gr (M := 82) (pc := 47) (n := 0) (ci := 6) (k := 2) (C := RX6) (T := TX6) (N := 14) (zd_eq zk82 (by decide +kernel : decode cX6_need 47 = .ok (.getfield 22, 3))) rfl (by decide) (by decide) zin_6 (zl_f zo82 zw_235)) <|
  zcons (a := (50, zi_il 3 51)) (zs_il_n (M := 82) (pc := 50) (zd_eq zk82 (by decide +kernel : decode cX6_need 50 = .ok (.iload_n 3, 1)))) <|
  zcons (a := (51, zi_pf 0 1 54)) (zs_pf (M := 82) (pc := 51) (ci := 0) (k := 1) (C := RX0) (T := TX0) (N := 3) (ty0 := tyX0) (zd_eq zk82 (by decide +kernel : decode cX6_need 51 = .ok (.putfield 181, 3))) rfl (by decide) (by decide) zin_0 (zl_f zo82 zw_97) tyX0_ok nmX0 rfl (tyX0_ok 1 (by decide))) <|
  zcons (a := (54, zi_al 0 55)) (zs_al_n (M := 82) (pc := 54) (zd_eq zk82 (by decide +kernel : decode cX6_need 54 = .ok (.aload_n 0, 1)))) <|
  zcons (a := (55, zi_cv 111 0 6 58 1)) (zs_cv (M := 82) (pc := 55) (M' := 111) (k := 0) (kd := 1) (ci := 6) (q := (RX6, TX6, 14)) (zd_eq zk82 (by decide +kernel : decode cX6_need 55 = .ok (.invokevirtual 199, 3))) zWd111 (zl_m zo82 zy111 zw_593) (zl_i zy111 zw_595) (zl_e zy111 zw_11) (by decide) rfl (by rw [zo111])) <|
  zcons (a := (58, zi_il 2 59)) (zs_il_n (M := 82) (pc := 58) (zd_eq zk82 (by decide +kernel : decode cX6_need 58 = .ok (.iload_n 2, 1)))) <|
  zcons (a := (59, zi_b2 (fun x y => x ≤ y) 64 62)) (zs_icmple (M := 82) (pc := 59) (zd_eq zk82 (by decide +kernel : decode cX6_need 59 = .ok (.if_icmp .le 5, 3))) (by decide)) <|
  zcons (a := (62, zi_il 3 63)) (zs_il_n (M := 82) (pc := 62) (zd_eq zk82 (by decide +kernel : decode cX6_need 62 = .ok (.iload_n 3, 1)))) <|
  zcons (a := (63, zi_ri)) (zs_ri (M := 82) (pc := 63) (zd_eq zk82 (by decide +kernel : decode cX6_need 63 = .ok (.ireturn, 1))) rfl) <|
  zcons (a := (64, zi_inc 3 1 67)) (zs_inc (M := 82) (pc := 64) (zd_eq zk82 (by decide +kernel : decode cX6_need 64 = .ok (.iinc 3 1, 3))) (by decide) (by decide +kernel) (by decide +kernel)) <|
  zcons (a := (67, zi_go 21)) (zs_goto (M := 82) (pc := 67) (zd_eq zk82 (by decide +kernel : decode cX6_need 67 = .ok (.goto (-46), 3))) (by decide)) <|
  zcons (a := (70, zi_k (.int (-4)) 72)) (zs_bipush (M := 82) (pc := 70) (zd_eq zk82 (by decide +kernel : decode cX6_need 70 = .ok (.bipush (-4), 2))) (by decide)) <|
  zcons (a := (72, zi_ri)) (zs_ri (M := 82) (pc := 72) (zd_eq zk82 (by decide +kernel : decode cX6_need 72 = .ok (.ireturn, 1))) rfl) <| znil
theorem zS82 : ∀ pc, zm_Snd 82 pc (zm_lk2 zm_c82 pc) := zlk2 (zcons2 zS82_0 (zcons2 zS82_1 (znil2)))
theorem zS83_0 : ∀ q ∈ zm_c83_0, zm_Snd 83 q.1 q.2 :=
  zcons (a := (0, zi_il 1 1)) (zs_il_n (M := 83) (pc := 0) (zd_eq zk83 (by decide +kernel : decode cX6_bucket 0 = .ok (.iload_n 1, 1)))) <|
  zcons (a := (1, zi_k (.int 1) 2)) (zs_iconst (M := 83) (pc := 1) (zd_eq zk83 (by decide +kernel : decode cX6_bucket 1 = .ok (.iconst 1, 1))) (by decide)) <|
  zcons (a := (2, zi_cs 105 2 5 1)) (zs_cs (M := 83) (pc := 2) (M' := 105) (k := 2) (kd := 1) (zd_eq zk83 (by decide +kernel : decode cX6_bucket 2 = .ok (.invokestatic 67, 3))) zWd105 (zl_m zo83 zy105 zw_280) (zl_s zy105 zw_281)) <|
  zcons (a := (5, zi_b1 (fun x => ¬ x = 0) 10 8)) (zs_ifne (M := 83) (pc := 5) (zd_eq zk83 (by decide +kernel : decode cX6_bucket 5 = .ok (.ifCond .ne 5, 3))) (by decide)) <|
  zcons (a := (8, zi_k (.int (-1)) 9)) (zs_iconst (M := 83) (pc := 8) (zd_eq zk83 (by decide +kernel : decode cX6_bucket 8 = .ok (.iconst (-1), 1))) (by decide)) <|
  zcons (a := (9, zi_ri)) (zs_ri (M := 83) (pc := 9) (zd_eq zk83 (by decide +kernel : decode cX6_bucket 9 = .ok (.ireturn, 1))) rfl) <|
  zcons (a := (10, zi_al 0 11)) (zs_al_n (M := 83) (pc := 10) (zd_eq zk83 (by decide +kernel : decode cX6_bucket 10 = .ok (.aload_n 0, 1)))) <|
  zcons (a := (11, zi_gr 6 1 14)) (zs_gr (M := 83) (pc := 11) (n := 0) (ci := 6) (k := 1) (C := RX6) (T := TX6) (N := 14) (zd_eq zk83 (by decide +kernel : decode cX6_bucket 11 = .ok (.getfield 16, 3))) rfl (by decide) (by decide) zin_6 (zl_f zo83 zw_234)) <|
  zcons (a := (14, zi_al 0 15)) (zs_al_n (M := 83) (pc := 14) (zd_eq zk83 (by decide +kernel : decode cX6_bucket 14 = .ok (.aload_n 0, 1)))) <|
  zcons (a := (15, zi_gr 6 0 18)) (zs_gr (M := 83) (pc := 15) (n := 0) (ci := 6) (k := 0) (C := RX6) (T := TX6) (N := 14) (zd_eq zk83 (by decide +kernel : decode cX6_bucket 15 = .ok (.getfield 10, 3))) rfl (by decide) (by decide) zin_6 (zl_f zo83 zw_233)) <|
  zcons (a := (18, zi_cv 30 1 1 21 0)) (zs_cv (M := 83) (pc := 18) (M' := 30) (k := 1) (kd := 0) (ci := 1) (q := (RX1, TX1, 4)) (zd_eq zk83 (by decide +kernel : decode cX6_bucket 18 = .ok (.invokevirtual 100, 3))) zWd30 (zl_m zo83 zy30 zw_411) (zl_i zy30 zw_412) (zl_e zy30 zw_413) (by decide) rfl (by rw [zo30])) <|
  zcons (a := (21, zi_al 0 22)) (zs_al_n (M := 83) (pc := 21) (zd_eq zk83 (by decide +kernel : decode cX6_bucket 21 = .ok (.aload_n 0, 1)))) <|
  zcons (a := (22, zi_gr 6 1 25)) (zs_gr (M := 83) (pc := 22) (n := 0) (ci := 6) (k := 1) (C := RX6) (T := TX6) (N := 14) (zd_eq zk83 (by decide +kernel : decode cX6_bucket 22 = .ok (.getfield 16, 3))) rfl (by decide) (by decide) zin_6 (zl_f zo83 zw_234)) <|
  zcons (a := (25, zi_k (.int 60) 27)) (zs_bipush (M := 83) (pc := 25) (zd_eq zk83 (by decide +kernel : decode cX6_bucket 25 = .ok (.bipush 60, 2))) (by decide)) <|
  zcons (a := (27, zi_cv 34 1 1 30 1)) (zs_cv (M := 83) (pc := 27) (M' := 34) (k := 1) (kd := 1) (ci := 1) (q := (RX1, TX1, 4)) (zd_eq zk83 (by decide +kernel : decode cX6_bucket 27 = .ok (.invokevirtual 190, 3))) zWd34 (zl_m zo83 zy34 zw_571) (zl_i zy34 zw_572) (zl_e zy34 zw_573) (by decide) rfl (by rw [zo34])) <|
  zcons (a := (30, zi_is 2 31)) (zs_is_n (M := 83) (pc := 30) (zd_eq zk83 (by decide +kernel : decode cX6_bucket 30 = .ok (.istore_n 2, 1))) (by decide +kernel) (by decide +kernel)) <|
  zcons (a := (31, zi_k (.int (-4)) 33)) (zs_bipush (M := 83) (pc := 31) (zd_eq zk83 (by decide +kernel : decode cX6_bucket 31 = .ok (.bipush (-4), 2))) (by decide)) <|
  zcons (a := (33, zi_is 3 34)) (zs_is_n (M := 83) (pc := 33) (zd_eq zk83 (by decide +kernel : decode cX6_bucket 33 = .ok (.istore_n 3, 1))) (by decide +kernel) (by decide +kernel)) <|
  zcons (a := (34, zi_k (.int 0) 35)) (zs_iconst (M := 83) (pc := 34) (zd_eq zk83 (by decide +kernel : decode cX6_bucket 34 = .ok (.iconst 0, 1))) (by decide)) <|
  zcons (a := (35, zi_is 4 37)) (zs_is_w (M := 83) (pc := 35) (zd_eq zk83 (by decide +kernel : decode cX6_bucket 35 = .ok (.istore 4, 2))) (by decide +kernel) (by decide +kernel)) <|
  zcons (a := (37, zi_il 4 39)) (zs_il_w (M := 83) (pc := 37) (zd_eq zk83 (by decide +kernel : decode cX6_bucket 37 = .ok (.iload 4, 2)))) <|
  zcons (a := (39, zi_al 0 40)) (zs_al_n (M := 83) (pc := 39) (zd_eq zk83 (by decide +kernel : decode cX6_bucket 39 = .ok (.aload_n 0, 1)))) <|
  zcons (a := (40, zi_gr 6 0 43)) (zs_gr (M := 83) (pc := 40) (n := 0) (ci := 6) (k := 0) (C := RX6) (T := TX6) (N := 14) (zd_eq zk83 (by decide +kernel : decode cX6_bucket 40 = .ok (.getfield 10, 3))) rfl (by decide) (by decide) zin_6 (zl_f zo83 zw_233)) <|
  zcons (a := (43, zi_gr 1 0 46)) (zs_gr (M := 83) (pc := 43) (n := 0) (ci := 1) (k := 0) (C := RX1) (T := TX1) (N := 4) (zd_eq zk83 (by decide +kernel : decode cX6_bucket 43 = .ok (.getfield 110, 3))) rfl (by decide) (by decide) zin_1 (zl_f zo83 zw_123)) <| znil
theorem zS83_1 : ∀ q ∈ zm_c83_1, zm_Snd 83 q.1 q.2 :=
  zcons (a := (46, zi_gi 2 1 49)) (zs_gi (M := 83) (pc := 46) (n := 0) (ci := 2) (k := 1) (C := RX2) (T := TX2) (N := 2) (zd_eq zk83 (by decide +kernel : decode cX6_bucket 46 = .ok (.getfield 114, 3))) rfl (by decide) (by decide) zin_2 (zl_f zo83 zw_112)) <|
  zcons (a := (49, zi_b2 (fun x y => y ≤ x) 128 52)) (zs_icmpge (M := 83) (pc := 49) (zd_eq zk83 (by decide +kernel : decode cX6_bucket 49 = .ok (.if_icmp .ge 79, 3))) (by decide)) <|
  zcons (a := (52, zi_al 0 53)) (zs_al_n (M := 83) (pc := 52) (zd_eq zk83 (by decide +kernel : decode cX6_bucket 52 = .ok (.aload_n 0, 1)))) <|
  zcons (a := (53, zi_gr 6 0 56)) (zs_gr (M := 83) (pc := 53) (n := 0) (ci := 6) (k := 0) (C := RX6) (T := TX6) (N := 14) (zd_eq zk83 (by decide +kernel : decode cX6_bucket 53 = .ok (.getfield 10, 3))) rfl (by decide) (by decide) zin_6 (zl_f zo83 zw_233)) <|
  zcons (a := (56, zi_gr 1 0 59)) (zs_gr (M := 83) (pc := 56) (n := 0) (ci := 1) (k := 0) (C := RX1) (T := TX1) (N := 4) (zd_eq zk83 (by decide +kernel : decode cX6_bucket 56 = .ok (.getfield 110, 3))) rfl (by decide) (by decide) zin_1 (zl_f zo83 zw_123)) <|
  zcons (a := (59, zi_gr 2 0 62)) (zs_gr (M := 83) (pc := 59) (n := 0) (ci := 2) (k := 0) (C := RX2) (T := TX2) (N := 2) (zd_eq zk83 (by decide +kernel : decode cX6_bucket 59 = .ok (.getfield 137, 3))) rfl (by decide) (by decide) zin_2 (zl_f zo83 zw_108)) <|
  zcons (a := (62, zi_il 4 64)) (zs_il_w (M := 83) (pc := 62) (zd_eq zk83 (by decide +kernel : decode cX6_bucket 62 = .ok (.iload 4, 2)))) <|
  zcons (a := (64, zi_qld 3 65)) (zs_qld (M := 83) (pc := 64) (t := 3) rfl (zd_eq zk83 (by decide +kernel : decode cX6_bucket 64 = .ok (.aaload, 1)))) <|
  zcons (a := (65, zi_cv 13 0 0 68 1)) (zs_cv (M := 83) (pc := 65) (M' := 13) (k := 0) (kd := 1) (ci := 0) (q := (RX0, TX0, 3)) (zd_eq zk83 (by decide +kernel : decode cX6_bucket 65 = .ok (.invokevirtual 171, 3))) zWd13 (zl_m zo83 zy13 zw_510) (zl_i zy13 zw_439) (zl_e zy13 zw_440) (by decide) rfl (by rw [zo13])) <|
  zcons (a := (68, zi_b1 (fun x => x = 0) 122 71)) (zs_ifeq (M := 83) (pc := 68) (zd_eq zk83 (by decide +kernel : decode cX6_bucket 68 = .ok (.ifCond .eq 54, 3))) (by decide)) <|
  zcons (a := (71, zi_al 0 72)) (zs_al_n (M := 83) (pc := 71) (zd_eq zk83 (by decide +kernel : decode cX6_bucket 71 = .ok (.aload_n 0, 1)))) <|
  zcons (a := (72, zi_gr 6 1 75)) (zs_gr (M := 83) (pc := 72) (n := 0) (ci := 6) (k := 1) (C := RX6) (T := TX6) (N := 14) (zd_eq zk83 (by decide +kernel : decode cX6_bucket 72 = .ok (.getfield 16, 3))) rfl (by decide) (by decide) zin_6 (zl_f zo83 zw_234)) <|
  zcons (a := (75, zi_al 0 76)) (zs_al_n (M := 83) (pc := 75) (zd_eq zk83 (by decide +kernel : decode cX6_bucket 75 = .ok (.aload_n 0, 1)))) <|
  zcons (a := (76, zi_gr 6 0 79)) (zs_gr (M := 83) (pc := 76) (n := 0) (ci := 6) (k := 0) (C := RX6) (T := TX6) (N := 14) (zd_eq zk83 (by decide +kernel : decode cX6_bucket 76 = .ok (.getfield 10, 3))) rfl (by decide) (by decide) zin_6 (zl_f zo83 zw_233)) <|
  zcons (a := (79, zi_cv 30 1 1 82 0)) (zs_cv (M := 83) (pc := 79) (M' := 30) (k := 1) (kd := 0) (ci := 1) (q := (RX1, TX1, 4)) (zd_eq zk83 (by decide +kernel : decode cX6_bucket 79 = .ok (.invokevirtual 100, 3))) zWd30 (zl_m zo83 zy30 zw_411) (zl_i zy30 zw_412) (zl_e zy30 zw_413) (by decide) rfl (by rw [zo30])) <|
  zcons (a := (82, zi_al 0 83)) (zs_al_n (M := 83) (pc := 82) (zd_eq zk83 (by decide +kernel : decode cX6_bucket 82 = .ok (.aload_n 0, 1)))) <|
  zcons (a := (83, zi_gr 6 1 86)) (zs_gr (M := 83) (pc := 83) (n := 0) (ci := 6) (k := 1) (C := RX6) (T := TX6) (N := 14) (zd_eq zk83 (by decide +kernel : decode cX6_bucket 83 = .ok (.getfield 16, 3))) rfl (by decide) (by decide) zin_6 (zl_f zo83 zw_234)) <|
  zcons (a := (86, zi_gr 1 0 89)) (zs_gr (M := 83) (pc := 86) (n := 0) (ci := 1) (k := 0) (C := RX1) (T := TX1) (N := 4) (zd_eq zk83 (by decide +kernel : decode cX6_bucket 86 = .ok (.getfield 110, 3))) rfl (by decide) (by decide) zin_1 (zl_f zo83 zw_123)) <|
  zcons (a := (89, zi_gr 2 0 92)) (zs_gr (M := 83) (pc := 89) (n := 0) (ci := 2) (k := 0) (C := RX2) (T := TX2) (N := 2) (zd_eq zk83 (by decide +kernel : decode cX6_bucket 89 = .ok (.getfield 137, 3))) rfl (by decide) (by decide) zin_2 (zl_f zo83 zw_108)) <|
  zcons (a := (92, zi_il 4 94)) (zs_il_w (M := 83) (pc := 92) (zd_eq zk83 (by decide +kernel : decode cX6_bucket 92 = .ok (.iload 4, 2)))) <|
  zcons (a := (94, zi_qld 3 95)) (zs_qld (M := 83) (pc := 94) (t := 3) rfl (zd_eq zk83 (by decide +kernel : decode cX6_bucket 94 = .ok (.aaload, 1)))) <|
  zcons (a := (95, zi_k (.int 3) 96)) (zs_iconst (M := 83) (pc := 95) (zd_eq zk83 (by decide +kernel : decode cX6_bucket 95 = .ok (.iconst 3, 1))) (by decide)) <|
  zcons (a := (96, zi_pf 0 0 99)) (zs_pf (M := 83) (pc := 96) (ci := 0) (k := 0) (C := RX0) (T := TX0) (N := 3) (ty0 := tyX0) (zd_eq zk83 (by decide +kernel : decode cX6_bucket 96 = .ok (.putfield 175, 3))) rfl (by decide) (by decide) zin_0 (zl_f zo83 zw_94) tyX0_ok nmX0 rfl (tyX0_ok 0 (by decide))) <|
  zcons (a := (99, zi_al 0 100)) (zs_al_n (M := 83) (pc := 99) (zd_eq zk83 (by decide +kernel : decode cX6_bucket 99 = .ok (.aload_n 0, 1)))) <| znil
theorem zS83_2 : ∀ q ∈ zm_c83_2, zm_Snd 83 q.1 q.2 :=
  zcons (a := (100, zi_gr 6 1 103)) (zs_gr (M := 83) (pc := 100) (n := 0) (ci := 6) (k := 1) (C := RX6) (T := TX6) (N := 14) (zd_eq zk83 (by decide +kernel : decode cX6_bucket 100 = .ok (.getfield 16, 3))) rfl (by decide) (by decide) zin_6 (zl_f zo83 zw_234)) <|
  zcons (a := (103, zi_k (.int 60) 105)) (zs_bipush (M := 83) (pc := 103) (zd_eq zk83 (by decide +kernel : decode cX6_bucket 103 = .ok (.bipush 60, 2))) (by decide)) <|
  zcons (a := (105, zi_cv 34 1 1 108 1)) (zs_cv (M := 83) (pc := 105) (M' := 34) (k := 1) (kd := 1) (ci := 1) (q := (RX1, TX1, 4)) (zd_eq zk83 (by decide +kernel : decode cX6_bucket 105 = .ok (.invokevirtual 190, 3))) zWd34 (zl_m zo83 zy34 zw_571) (zl_i zy34 zw_572) (zl_e zy34 zw_573) (by decide) rfl (by rw [zo34])) <|
  zcons (a := (108, zi_is 5 110)) (zs_is_w (M := 83) (pc := 108) (zd_eq zk83 (by decide +kernel : decode cX6_bucket 108 = .ok (.istore 5, 2))) (by decide +kernel) (by decide +kernel)) <|
  zcons (a := (110, zi_il 5 112)) (zs_il_w (M := 83) (pc := 110) (zd_eq zk83 (by decide +kernel : decode cX6_bucket 110 = .ok (.iload 5, 2)))) <|
  zcons (a := (112, zi_il 2 113)) (zs_il_n (M := 83) (pc := 112) (zd_eq zk83 (by decide +kernel : decode cX6_bucket 112 = .ok (.iload_n 2, 1)))) <|
  zcons (a := (113, zi_b2 (fun x y => y ≤ x) 122 116)) (zs_icmpge (M := 83) (pc := 113) (zd_eq zk83 (by decide +kernel : decode cX6_bucket 113 = .ok (.if_icmp .ge 9, 3))) (by decide)) <|
  zcons (a := (116, zi_il 5 118)) (zs_il_w (M := 83) (pc := 116) (zd_eq zk83 (by decide +kernel : decode cX6_bucket 116 = .ok (.iload 5, 2)))) <|
  zcons (a := (118, zi_is 2 119)) (zs_is_n (M := 83) (pc := 118) (zd_eq zk83 (by decide +kernel : decode cX6_bucket 118 = .ok (.istore_n 2, 1))) (by decide +kernel) (by decide +kernel)) <|
  zcons (a := (119, zi_il 4 121)) (zs_il_w (M := 83) (pc := 119) (zd_eq zk83 (by decide +kernel : decode cX6_bucket 119 = .ok (.iload 4, 2)))) <|
  zcons (a := (121, zi_is 3 122)) (zs_is_n (M := 83) (pc := 121) (zd_eq zk83 (by decide +kernel : decode cX6_bucket 121 = .ok (.istore_n 3, 1))) (by decide +kernel) (by decide +kernel)) <|
  zcons (a := (122, zi_inc 4 1 125)) (zs_inc (M := 83) (pc := 122) (zd_eq zk83 (by decide +kernel : decode cX6_bucket 122 = .ok (.iinc 4 1, 3))) (by decide) (by decide +kernel) (by decide +kernel)) <|
  zcons (a := (125, zi_go 37)) (zs_goto (M := 83) (pc := 125) (zd_eq zk83 (by decide +kernel : decode cX6_bucket 125 = .ok (.goto (-88), 3))) (by decide)) <|
  zcons (a := (128, zi_il 3 129)) (zs_il_n (M := 83) (pc := 128) (zd_eq zk83 (by decide +kernel : decode cX6_bucket 128 = .ok (.iload_n 3, 1)))) <|
  zcons (a := (129, zi_il 2 130)) (zs_il_n (M := 83) (pc := 129) (zd_eq zk83 (by decide +kernel : decode cX6_bucket 129 = .ok (.iload_n 2, 1)))) <|
  zcons (a := (130, zi_il 1 131)) (zs_il_n (M := 83) (pc := 130) (zd_eq zk83 (by decide +kernel : decode cX6_bucket 130 = .ok (.iload_n 1, 1)))) <|
  zcons (a := (131, zi_cs 108 3 134 1)) (zs_cs (M := 83) (pc := 131) (M' := 108) (k := 3) (kd := 1) (zd_eq zk83 (by decide +kernel : decode cX6_bucket 131 = .ok (.invokestatic 214, 3))) zWd108 (zl_m zo83 zy108 zw_624) (zl_s zy108 zw_625)) <|
  zcons (a := (134, zi_ri)) (zs_ri (M := 83) (pc := 134) (zd_eq zk83 (by decide +kernel : decode cX6_bucket 134 = .ok (.ireturn, 1))) rfl) <| znil
theorem zS83 : ∀ pc, zm_Snd 83 pc (zm_lk2 zm_c83 pc) := zlk2 (zcons2 zS83_0 (zcons2 zS83_1 (zcons2 zS83_2 (znil2))))
theorem zS84_0 : ∀ q ∈ zm_c84_0, zm_Snd 84 q.1 q.2 :=
  zcons (a := (0, zi_il 1 1)) (zs_il_n (M := 84) (pc := 0) (zd_eq zk84 (by decide +kernel : decode cX6_swap 0 = .ok (.iload_n 1, 1)))) <|
  zcons (a := (1, zi_k (.int 1) 2)) (zs_iconst (M := 84) (pc := 1) (zd_eq zk84 (by decide +kernel : decode cX6_swap 1 = .ok (.iconst 1, 1))) (by decide)) <|
  zcons (a := (2, zi_b2 (fun x y => x < y) 19 5)) (zs_icmplt (M := 84) (pc := 2) (zd_eq zk84 (by decide +kernel : decode cX6_swap 2 = .ok (.if_icmp .lt 17, 3))) (by decide)) <|
  zcons (a := (5, zi_il 1 6)) (zs_il_n (M := 84) (pc := 5) (zd_eq zk84 (by decide +kernel : decode cX6_swap 5 = .ok (.iload_n 1, 1)))) <|
  zcons (a := (6, zi_k (.int 60) 8)) (zs_bipush (M := 84) (pc := 6) (zd_eq zk84 (by decide +kernel : decode cX6_swap 6 = .ok (.bipush 60, 2))) (by decide)) <|
  zcons (a := (8, zi_b2 (fun x y => y < x) 19 11)) (zs_icmpgt (M := 84) (pc := 8) (zd_eq zk84 (by decide +kernel : decode cX6_swap 8 = .ok (.if_icmp .gt 11, 3))) (by decide)) <|
  zcons (a := (11, zi_il 2 12)) (zs_il_n (M := 84) (pc := 11) (zd_eq zk84 (by decide +kernel : decode cX6_swap 11 = .ok (.iload_n 2, 1)))) <|
  zcons (a := (12, zi_k (.int 1) 13)) (zs_iconst (M := 84) (pc := 12) (zd_eq zk84 (by decide +kernel : decode cX6_swap 12 = .ok (.iconst 1, 1))) (by decide)) <|
  zcons (a := (13, zi_cs 105 2 16 1)) (zs_cs (M := 84) (pc := 13) (M' := 105) (k := 2) (kd := 1) (zd_eq zk84 (by decide +kernel : decode cX6_swap 13 = .ok (.invokestatic 67, 3))) zWd105 (zl_m zo84 zy105 zw_280) (zl_s zy105 zw_281)) <|
  zcons (a := (16, zi_b1 (fun x => ¬ x = 0) 21 19)) (zs_ifne (M := 84) (pc := 16) (zd_eq zk84 (by decide +kernel : decode cX6_swap 16 = .ok (.ifCond .ne 5, 3))) (by decide)) <|
  zcons (a := (19, zi_k (.int (-1)) 20)) (zs_iconst (M := 84) (pc := 19) (zd_eq zk84 (by decide +kernel : decode cX6_swap 19 = .ok (.iconst (-1), 1))) (by decide)) <|
  zcons (a := (20, zi_ri)) (zs_ri (M := 84) (pc := 20) (zd_eq zk84 (by decide +kernel : decode cX6_swap 20 = .ok (.ireturn, 1))) rfl) <|
  zcons (a := (21, zi_al 0 22)) (zs_al_n (M := 84) (pc := 21) (zd_eq zk84 (by decide +kernel : decode cX6_swap 21 = .ok (.aload_n 0, 1)))) <|
  zcons (a := (22, zi_gr 6 1 25)) (zs_gr (M := 84) (pc := 22) (n := 0) (ci := 6) (k := 1) (C := RX6) (T := TX6) (N := 14) (zd_eq zk84 (by decide +kernel : decode cX6_swap 22 = .ok (.getfield 16, 3))) rfl (by decide) (by decide) zin_6 (zl_f zo84 zw_234)) <|
  zcons (a := (25, zi_al 0 26)) (zs_al_n (M := 84) (pc := 25) (zd_eq zk84 (by decide +kernel : decode cX6_swap 25 = .ok (.aload_n 0, 1)))) <|
  zcons (a := (26, zi_gr 6 0 29)) (zs_gr (M := 84) (pc := 26) (n := 0) (ci := 6) (k := 0) (C := RX6) (T := TX6) (N := 14) (zd_eq zk84 (by decide +kernel : decode cX6_swap 26 = .ok (.getfield 10, 3))) rfl (by decide) (by decide) zin_6 (zl_f zo84 zw_233)) <|
  zcons (a := (29, zi_cv 30 1 1 32 0)) (zs_cv (M := 84) (pc := 29) (M' := 30) (k := 1) (kd := 0) (ci := 1) (q := (RX1, TX1, 4)) (zd_eq zk84 (by decide +kernel : decode cX6_swap 29 = .ok (.invokevirtual 100, 3))) zWd30 (zl_m zo84 zy30 zw_411) (zl_i zy30 zw_412) (zl_e zy30 zw_413) (by decide) rfl (by rw [zo30])) <|
  zcons (a := (32, zi_al 0 33)) (zs_al_n (M := 84) (pc := 32) (zd_eq zk84 (by decide +kernel : decode cX6_swap 32 = .ok (.aload_n 0, 1)))) <|
  zcons (a := (33, zi_gr 6 1 36)) (zs_gr (M := 84) (pc := 33) (n := 0) (ci := 6) (k := 1) (C := RX6) (T := TX6) (N := 14) (zd_eq zk84 (by decide +kernel : decode cX6_swap 33 = .ok (.getfield 16, 3))) rfl (by decide) (by decide) zin_6 (zl_f zo84 zw_234)) <|
  zcons (a := (36, zi_il 1 37)) (zs_il_n (M := 84) (pc := 36) (zd_eq zk84 (by decide +kernel : decode cX6_swap 36 = .ok (.iload_n 1, 1)))) <|
  zcons (a := (37, zi_cv 37 1 1 40 1)) (zs_cv (M := 84) (pc := 37) (M' := 37) (k := 1) (kd := 1) (ci := 1) (q := (RX1, TX1, 4)) (zd_eq zk84 (by decide +kernel : decode cX6_swap 37 = .ok (.invokevirtual 218, 3))) zWd37 (zl_m zo84 zy37 zw_631) (zl_i zy37 zw_632) (zl_e zy37 zw_633) (by decide) rfl (by rw [zo37])) <|
  zcons (a := (40, zi_is 3 41)) (zs_is_n (M := 84) (pc := 40) (zd_eq zk84 (by decide +kernel : decode cX6_swap 40 = .ok (.istore_n 3, 1))) (by decide +kernel) (by decide +kernel)) <|
  zcons (a := (41, zi_k (.int (-4)) 43)) (zs_bipush (M := 84) (pc := 41) (zd_eq zk84 (by decide +kernel : decode cX6_swap 41 = .ok (.bipush (-4), 2))) (by decide)) <|
  zcons (a := (43, zi_is 4 45)) (zs_is_w (M := 84) (pc := 43) (zd_eq zk84 (by decide +kernel : decode cX6_swap 43 = .ok (.istore 4, 2))) (by decide +kernel) (by decide +kernel)) <| znil
theorem zS84_1 : ∀ q ∈ zm_c84_1, zm_Snd 84 q.1 q.2 :=
  zcons (a := (45, zi_k (.int 0) 46)) (zs_iconst (M := 84) (pc := 45) (zd_eq zk84 (by decide +kernel : decode cX6_swap 45 = .ok (.iconst 0, 1))) (by decide)) <|
  zcons (a := (46, zi_is 5 48)) (zs_is_w (M := 84) (pc := 46) (zd_eq zk84 (by decide +kernel : decode cX6_swap 46 = .ok (.istore 5, 2))) (by decide +kernel) (by decide +kernel)) <|
  zcons (a := (48, zi_il 5 50)) (zs_il_w (M := 84) (pc := 48) (zd_eq zk84 (by decide +kernel : decode cX6_swap 48 = .ok (.iload 5, 2)))) <|
  zcons (a := (50, zi_al 0 51)) (zs_al_n (M := 84) (pc := 50) (zd_eq zk84 (by decide +kernel : decode cX6_swap 50 = .ok (.aload_n 0, 1)))) <|
  zcons (a := (51, zi_gr 6 0 54)) (zs_gr (M := 84) (pc := 51) (n := 0) (ci := 6) (k := 0) (C := RX6) (T := TX6) (N := 14) (zd_eq zk84 (by decide +kernel : decode cX6_swap 51 = .ok (.getfield 10, 3))) rfl (by decide) (by decide) zin_6 (zl_f zo84 zw_233)) <|
  zcons (a := (54, zi_gr 1 0 57)) (zs_gr (M := 84) (pc := 54) (n := 0) (ci := 1) (k := 0) (C := RX1) (T := TX1) (N := 4) (zd_eq zk84 (by decide +kernel : decode cX6_swap 54 = .ok (.getfield 110, 3))) rfl (by decide) (by decide) zin_1 (zl_f zo84 zw_123)) <|
  zcons (a := (57, zi_gi 2 1 60)) (zs_gi (M := 84) (pc := 57) (n := 0) (ci := 2) (k := 1) (C := RX2) (T := TX2) (N := 2) (zd_eq zk84 (by decide +kernel : decode cX6_swap 57 = .ok (.getfield 114, 3))) rfl (by decide) (by decide) zin_2 (zl_f zo84 zw_112)) <|
  zcons (a := (60, zi_b2 (fun x y => y ≤ x) 150 63)) (zs_icmpge (M := 84) (pc := 60) (zd_eq zk84 (by decide +kernel : decode cX6_swap 60 = .ok (.if_icmp .ge 90, 3))) (by decide)) <|
  zcons (a := (63, zi_il 5 65)) (zs_il_w (M := 84) (pc := 63) (zd_eq zk84 (by decide +kernel : decode cX6_swap 63 = .ok (.iload 5, 2)))) <|
  zcons (a := (65, zi_k (.int 1) 66)) (zs_iconst (M := 84) (pc := 65) (zd_eq zk84 (by decide +kernel : decode cX6_swap 65 = .ok (.iconst 1, 1))) (by decide)) <|
  zcons (a := (66, zi_bin (· + ·) 67)) (zs_iadd (M := 84) (pc := 66) (zd_eq zk84 (by decide +kernel : decode cX6_swap 66 = .ok (.iadd, 1)))) <|
  zcons (a := (67, zi_is 6 69)) (zs_is_w (M := 84) (pc := 67) (zd_eq zk84 (by decide +kernel : decode cX6_swap 67 = .ok (.istore 6, 2))) (by decide +kernel) (by decide +kernel)) <|
  zcons (a := (69, zi_il 6 71)) (zs_il_w (M := 84) (pc := 69) (zd_eq zk84 (by decide +kernel : decode cX6_swap 69 = .ok (.iload 6, 2)))) <|
  zcons (a := (71, zi_al 0 72)) (zs_al_n (M := 84) (pc := 71) (zd_eq zk84 (by decide +kernel : decode cX6_swap 71 = .ok (.aload_n 0, 1)))) <|
  zcons (a := (72, zi_gr 6 0 75)) (zs_gr (M := 84) (pc := 72) (n := 0) (ci := 6) (k := 0) (C := RX6) (T := TX6) (N := 14) (zd_eq zk84 (by decide +kernel : decode cX6_swap 72 = .ok (.getfield 10, 3))) rfl (by decide) (by decide) zin_6 (zl_f zo84 zw_233)) <|
  zcons (a := (75, zi_gr 1 0 78)) (zs_gr (M := 84) (pc := 75) (n := 0) (ci := 1) (k := 0) (C := RX1) (T := TX1) (N := 4) (zd_eq zk84 (by decide +kernel : decode cX6_swap 75 = .ok (.getfield 110, 3))) rfl (by decide) (by decide) zin_1 (zl_f zo84 zw_123)) <|
  zcons (a := (78, zi_gi 2 1 81)) (zs_gi (M := 84) (pc := 78) (n := 0) (ci := 2) (k := 1) (C := RX2) (T := TX2) (N := 2) (zd_eq zk84 (by decide +kernel : decode cX6_swap 78 = .ok (.getfield 114, 3))) rfl (by decide) (by decide) zin_2 (zl_f zo84 zw_112)) <|
  zcons (a := (81, zi_b2 (fun x y => y ≤ x) 144 84)) (zs_icmpge (M := 84) (pc := 81) (zd_eq zk84 (by decide +kernel : decode cX6_swap 81 = .ok (.if_icmp .ge 63, 3))) (by decide)) <|
  zcons (a := (84, zi_al 0 85)) (zs_al_n (M := 84) (pc := 84) (zd_eq zk84 (by decide +kernel : decode cX6_swap 84 = .ok (.aload_n 0, 1)))) <|
  zcons (a := (85, zi_gr 6 1 88)) (zs_gr (M := 84) (pc := 85) (n := 0) (ci := 6) (k := 1) (C := RX6) (T := TX6) (N := 14) (zd_eq zk84 (by decide +kernel : decode cX6_swap 85 = .ok (.getfield 16, 3))) rfl (by decide) (by decide) zin_6 (zl_f zo84 zw_234)) <|
  zcons (a := (88, zi_al 0 89)) (zs_al_n (M := 84) (pc := 88) (zd_eq zk84 (by decide +kernel : decode cX6_swap 88 = .ok (.aload_n 0, 1)))) <|
  zcons (a := (89, zi_gr 6 0 92)) (zs_gr (M := 84) (pc := 89) (n := 0) (ci := 6) (k := 0) (C := RX6) (T := TX6) (N := 14) (zd_eq zk84 (by decide +kernel : decode cX6_swap 89 = .ok (.getfield 10, 3))) rfl (by decide) (by decide) zin_6 (zl_f zo84 zw_233)) <|
  zcons (a := (92, zi_cv 30 1 1 95 0)) (zs_cv (M := 84) (pc := 92) (M' := 30) (k := 1) (kd := 0) (ci := 1) (q := (RX1, TX1, 4)) (zd_eq zk84 (by decide +kernel : decode cX6_swap 92 = .ok (.invokevirtual 100, 3))) zWd30 (zl_m zo84 zy30 zw_411) (zl_i zy30 zw_412) (zl_e zy30 zw_413) (by decide) rfl (by rw [zo30])) <|
  zcons (a := (95, zi_al 0 96)) (zs_al_n (M := 84) (pc := 95) (zd_eq zk84 (by decide +kernel : decode cX6_swap 95 = .ok (.aload_n 0, 1)))) <| znil
theorem zS84_2 : ∀ q ∈ zm_c84_2, zm_Snd 84 q.1 q.2 :=
  zcons (a := (96, zi_gr 6 1 99)) (zs_gr (M := 84) (pc := 96) (n := 0) (ci := 6) (k := 1) (C := RX6) (T := TX6) (N := 14) (zd_eq zk84 (by decide +kernel : decode cX6_swap 96 = .ok (.getfield 16, 3))) rfl (by decide) (by decide) zin_6 (zl_f zo84 zw_234)) <|
  zcons (a := (99, zi_gr 1 0 102)) (zs_gr (M := 84) (pc := 99) (n := 0) (ci := 1) (k := 0) (C := RX1) (T := TX1) (N := 4) (zd_eq zk84 (by decide +kernel : decode cX6_swap 99 = .ok (.getfield 110, 3))) rfl (by decide) (by decide) zin_1 (zl_f zo84 zw_123)) <|
  zcons (a := (102, zi_il 5 104)) (zs_il_w (M := 84) (pc := 102) (zd_eq zk84 (by decide +kernel : decode cX6_swap 102 = .ok (.iload 5, 2)))) <|
  zcons (a := (104, zi_il 6 106)) (zs_il_w (M := 84) (pc := 104) (zd_eq zk84 (by decide +kernel : decode cX6_swap 104 = .ok (.iload 6, 2)))) <|
  zcons (a := (106, zi_cv 21 2 2 109 0)) (zs_cv (M := 84) (pc := 106) (M' := 21) (k := 2) (kd := 0) (ci := 2) (q := (RX2, TX2, 2)) (zd_eq zk84 (by decide +kernel : decode cX6_swap 106 = .ok (.invokevirtual 221, 3))) zWd21 (zl_m zo84 zy21 zw_635) (zl_i zy21 zw_636) (zl_e zy21 zw_637) (by decide) rfl (by rw [zo21])) <|
  zcons (a := (109, zi_al 0 110)) (zs_al_n (M := 84) (pc := 109) (zd_eq zk84 (by decide +kernel : decode cX6_swap 109 = .ok (.aload_n 0, 1)))) <|
  zcons (a := (110, zi_gr 6 1 113)) (zs_gr (M := 84) (pc := 110) (n := 0) (ci := 6) (k := 1) (C := RX6) (T := TX6) (N := 14) (zd_eq zk84 (by decide +kernel : decode cX6_swap 110 = .ok (.getfield 16, 3))) rfl (by decide) (by decide) zin_6 (zl_f zo84 zw_234)) <|
  zcons (a := (113, zi_il 1 114)) (zs_il_n (M := 84) (pc := 113) (zd_eq zk84 (by decide +kernel : decode cX6_swap 113 = .ok (.iload_n 1, 1)))) <|
  zcons (a := (114, zi_cv 37 1 1 117 1)) (zs_cv (M := 84) (pc := 114) (M' := 37) (k := 1) (kd := 1) (ci := 1) (q := (RX1, TX1, 4)) (zd_eq zk84 (by decide +kernel : decode cX6_swap 114 = .ok (.invokevirtual 218, 3))) zWd37 (zl_m zo84 zy37 zw_631) (zl_i zy37 zw_632) (zl_e zy37 zw_633) (by decide) rfl (by rw [zo37])) <|
  zcons (a := (117, zi_is 7 119)) (zs_is_w (M := 84) (pc := 117) (zd_eq zk84 (by decide +kernel : decode cX6_swap 117 = .ok (.istore 7, 2))) (by decide +kernel) (by decide +kernel)) <|
  zcons (a := (119, zi_il 7 121)) (zs_il_w (M := 84) (pc := 119) (zd_eq zk84 (by decide +kernel : decode cX6_swap 119 = .ok (.iload 7, 2)))) <|
  zcons (a := (121, zi_il 3 122)) (zs_il_n (M := 84) (pc := 121) (zd_eq zk84 (by decide +kernel : decode cX6_swap 121 = .ok (.iload_n 3, 1)))) <|
  zcons (a := (122, zi_b2 (fun x y => y ≤ x) 138 125)) (zs_icmpge (M := 84) (pc := 122) (zd_eq zk84 (by decide +kernel : decode cX6_swap 122 = .ok (.if_icmp .ge 16, 3))) (by decide)) <|
  zcons (a := (125, zi_il 7 127)) (zs_il_w (M := 84) (pc := 125) (zd_eq zk84 (by decide +kernel : decode cX6_swap 125 = .ok (.iload 7, 2)))) <|
  zcons (a := (127, zi_is 3 128)) (zs_is_n (M := 84) (pc := 127) (zd_eq zk84 (by decide +kernel : decode cX6_swap 127 = .ok (.istore_n 3, 1))) (by decide +kernel) (by decide +kernel)) <|
  zcons (a := (128, zi_k (.int 10) 130)) (zs_bipush (M := 84) (pc := 128) (zd_eq zk84 (by decide +kernel : decode cX6_swap 128 = .ok (.bipush 10, 2))) (by decide)) <|
  zcons (a := (130, zi_il 5 132)) (zs_il_w (M := 84) (pc := 130) (zd_eq zk84 (by decide +kernel : decode cX6_swap 130 = .ok (.iload 5, 2)))) <|
  zcons (a := (132, zi_bin (· * ·) 133)) (zs_imul (M := 84) (pc := 132) (zd_eq zk84 (by decide +kernel : decode cX6_swap 132 = .ok (.imul, 1)))) <|
  zcons (a := (133, zi_il 6 135)) (zs_il_w (M := 84) (pc := 133) (zd_eq zk84 (by decide +kernel : decode cX6_swap 133 = .ok (.iload 6, 2)))) <|
  zcons (a := (135, zi_bin (· + ·) 136)) (zs_iadd (M := 84) (pc := 135) (zd_eq zk84 (by decide +kernel : decode cX6_swap 135 = .ok (.iadd, 1)))) <|
  zcons (a := (136, zi_is 4 138)) (zs_is_w (M := 84) (pc := 136) (zd_eq zk84 (by decide +kernel : decode cX6_swap 136 = .ok (.istore 4, 2))) (by decide +kernel) (by decide +kernel)) <|
  zcons (a := (138, zi_inc 6 1 141)) (zs_inc (M := 84) (pc := 138) (zd_eq zk84 (by decide +kernel : decode cX6_swap 138 = .ok (.iinc 6 1, 3))) (by decide) (by decide +kernel) (by decide +kernel)) <|
  zcons (a := (141, zi_go 69)) (zs_goto (M := 84) (pc := 141) (zd_eq zk84 (by decide +kernel : decode cX6_swap 141 = .ok (.goto (-72), 3))) (by decide)) <|
  zcons (a := (144, zi_inc 5 1 147)) (zs_inc (M := 84) (pc := 144) (zd_eq zk84 (by decide +kernel : decode cX6_swap 144 = .ok (.iinc 5 1, 3))) (by decide) (by decide +kernel) (by decide +kernel)) <| znil
theorem zS84_3 : ∀ q ∈ zm_c84_3, zm_Snd 84 q.1 q.2 :=
  zcons (a := (147, zi_go 48)) (zs_goto (M := 84) (pc := 147) (zd_eq zk84 (by decide +kernel : decode cX6_swap 147 = .ok (.goto (-99), 3))) (by decide)) <|
  zcons (a := (150, zi_il 4 152)) (zs_il_w (M := 84) (pc := 150) (zd_eq zk84 (by decide +kernel : decode cX6_swap 150 = .ok (.iload 4, 2)))) <|
  zcons (a := (152, zi_il 3 153)) (zs_il_n (M := 84) (pc := 152) (zd_eq zk84 (by decide +kernel : decode cX6_swap 152 = .ok (.iload_n 3, 1)))) <|
  zcons (a := (153, zi_il 2 154)) (zs_il_n (M := 84) (pc := 153) (zd_eq zk84 (by decide +kernel : decode cX6_swap 153 = .ok (.iload_n 2, 1)))) <|
  zcons (a := (154, zi_cs 108 3 157 1)) (zs_cs (M := 84) (pc := 154) (M' := 108) (k := 3) (kd := 1) (zd_eq zk84 (by decide +kernel : decode cX6_swap 154 = .ok (.invokestatic 214, 3))) zWd108 (zl_m zo84 zy108 zw_624) (zl_s zy108 zw_625)) <|
  zcons (a := (157, zi_ri)) (zs_ri (M := 84) (pc := 157) (zd_eq zk84 (by decide +kernel : decode cX6_swap 157 = .ok (.ireturn, 1))) rfl) <| znil
theorem zS84 : ∀ pc, zm_Snd 84 pc (zm_lk2 zm_c84 pc) := zlk2 (zcons2 zS84_0 (zcons2 zS84_1 (zcons2 zS84_2 (zcons2 zS84_3 (znil2)))))
theorem zS85_0 : ∀ q ∈ zm_c85_0, zm_Snd 85 q.1 q.2 :=
  zcons (a := (0, zi_il 1 1)) (zs_il_n (M := 85) (pc := 0) (zd_eq zk85 (by decide +kernel : decode cX6_lee 0 = .ok (.iload_n 1, 1)))) <|
  zcons (a := (1, zi_k (.int 60) 3)) (zs_bipush (M := 85) (pc := 1) (zd_eq zk85 (by decide +kernel : decode cX6_lee 1 = .ok (.bipush 60, 2))) (by decide)) <|
  zcons (a := (3, zi_cs 105 2 6 1)) (zs_cs (M := 85) (pc := 3) (M' := 105) (k := 2) (kd := 1) (zd_eq zk85 (by decide +kernel : decode cX6_lee 3 = .ok (.invokestatic 67, 3))) zWd105 (zl_m zo85 zy105 zw_280) (zl_s zy105 zw_281)) <|
  zcons (a := (6, zi_b1 (fun x => x = 0) 17 9)) (zs_ifeq (M := 85) (pc := 6) (zd_eq zk85 (by decide +kernel : decode cX6_lee 6 = .ok (.ifCond .eq 11, 3))) (by decide)) <|
  zcons (a := (9, zi_il 2 10)) (zs_il_n (M := 85) (pc := 9) (zd_eq zk85 (by decide +kernel : decode cX6_lee 9 = .ok (.iload_n 2, 1)))) <|
  zcons (a := (10, zi_k (.int 1) 11)) (zs_iconst (M := 85) (pc := 10) (zd_eq zk85 (by decide +kernel : decode cX6_lee 10 = .ok (.iconst 1, 1))) (by decide)) <|
  zcons (a := (11, zi_cs 105 2 14 1)) (zs_cs (M := 85) (pc := 11) (M' := 105) (k := 2) (kd := 1) (zd_eq zk85 (by decide +kernel : decode cX6_lee 11 = .ok (.invokestatic 67, 3))) zWd105 (zl_m zo85 zy105 zw_280) (zl_s zy105 zw_281)) <|
  zcons (a := (14, zi_b1 (fun x => ¬ x = 0) 19 17)) (zs_ifne (M := 85) (pc := 14) (zd_eq zk85 (by decide +kernel : decode cX6_lee 14 = .ok (.ifCond .ne 5, 3))) (by decide)) <|
  zcons (a := (17, zi_k (.int (-1)) 18)) (zs_iconst (M := 85) (pc := 17) (zd_eq zk85 (by decide +kernel : decode cX6_lee 17 = .ok (.iconst (-1), 1))) (by decide)) <|
  zcons (a := (18, zi_ri)) (zs_ri (M := 85) (pc := 18) (zd_eq zk85 (by decide +kernel : decode cX6_lee 18 = .ok (.ireturn, 1))) rfl) <|
  zcons (a := (19, zi_al 0 20)) (zs_al_n (M := 85) (pc := 19) (zd_eq zk85 (by decide +kernel : decode cX6_lee 19 = .ok (.aload_n 0, 1)))) <|
  zcons (a := (20, zi_gr 6 1 23)) (zs_gr (M := 85) (pc := 20) (n := 0) (ci := 6) (k := 1) (C := RX6) (T := TX6) (N := 14) (zd_eq zk85 (by decide +kernel : decode cX6_lee 20 = .ok (.getfield 16, 3))) rfl (by decide) (by decide) zin_6 (zl_f zo85 zw_234)) <|
  zcons (a := (23, zi_al 0 24)) (zs_al_n (M := 85) (pc := 23) (zd_eq zk85 (by decide +kernel : decode cX6_lee 23 = .ok (.aload_n 0, 1)))) <|
  zcons (a := (24, zi_gr 6 0 27)) (zs_gr (M := 85) (pc := 24) (n := 0) (ci := 6) (k := 0) (C := RX6) (T := TX6) (N := 14) (zd_eq zk85 (by decide +kernel : decode cX6_lee 24 = .ok (.getfield 10, 3))) rfl (by decide) (by decide) zin_6 (zl_f zo85 zw_233)) <|
  zcons (a := (27, zi_cv 30 1 1 30 0)) (zs_cv (M := 85) (pc := 27) (M' := 30) (k := 1) (kd := 0) (ci := 1) (q := (RX1, TX1, 4)) (zd_eq zk85 (by decide +kernel : decode cX6_lee 27 = .ok (.invokevirtual 100, 3))) zWd30 (zl_m zo85 zy30 zw_411) (zl_i zy30 zw_412) (zl_e zy30 zw_413) (by decide) rfl (by rw [zo30])) <|
  zcons (a := (30, zi_al 0 31)) (zs_al_n (M := 85) (pc := 30) (zd_eq zk85 (by decide +kernel : decode cX6_lee 30 = .ok (.aload_n 0, 1)))) <|
  zcons (a := (31, zi_gr 6 1 34)) (zs_gr (M := 85) (pc := 31) (n := 0) (ci := 6) (k := 1) (C := RX6) (T := TX6) (N := 14) (zd_eq zk85 (by decide +kernel : decode cX6_lee 31 = .ok (.getfield 16, 3))) rfl (by decide) (by decide) zin_6 (zl_f zo85 zw_234)) <|
  zcons (a := (34, zi_il 1 35)) (zs_il_n (M := 85) (pc := 34) (zd_eq zk85 (by decide +kernel : decode cX6_lee 34 = .ok (.iload_n 1, 1)))) <|
  zcons (a := (35, zi_cv 33 1 1 38 0)) (zs_cv (M := 85) (pc := 35) (M' := 33) (k := 1) (kd := 0) (ci := 1) (q := (RX1, TX1, 4)) (zd_eq zk85 (by decide +kernel : decode cX6_lee 35 = .ok (.invokevirtual 184, 3))) zWd33 (zl_m zo85 zy33 zw_527) (zl_i zy33 zw_528) (zl_e zy33 zw_529) (by decide) rfl (by rw [zo33])) <|
  zcons (a := (38, zi_al 0 39)) (zs_al_n (M := 85) (pc := 38) (zd_eq zk85 (by decide +kernel : decode cX6_lee 38 = .ok (.aload_n 0, 1)))) <|
  zcons (a := (39, zi_gr 6 1 42)) (zs_gr (M := 85) (pc := 39) (n := 0) (ci := 6) (k := 1) (C := RX6) (T := TX6) (N := 14) (zd_eq zk85 (by decide +kernel : decode cX6_lee 39 = .ok (.getfield 16, 3))) rfl (by decide) (by decide) zin_6 (zl_f zo85 zw_234)) <|
  zcons (a := (42, zi_gr 1 0 45)) (zs_gr (M := 85) (pc := 42) (n := 0) (ci := 1) (k := 0) (C := RX1) (T := TX1) (N := 4) (zd_eq zk85 (by decide +kernel : decode cX6_lee 42 = .ok (.getfield 110, 3))) rfl (by decide) (by decide) zin_1 (zl_f zo85 zw_123)) <|
  zcons (a := (45, zi_cv 25 0 2 48 1)) (zs_cv (M := 85) (pc := 45) (M' := 25) (k := 0) (kd := 1) (ci := 2) (q := (RX2, TX2, 2)) (zd_eq zk85 (by decide +kernel : decode cX6_lee 45 = .ok (.invokevirtual 187, 3))) zWd25 (zl_m zo85 zy25 zw_556) (zl_i zy25 zw_557) (zl_e zy25 zw_558) (by decide) rfl (by rw [zo25])) <|
  zcons (a := (48, zi_is 3 49)) (zs_is_n (M := 85) (pc := 48) (zd_eq zk85 (by decide +kernel : decode cX6_lee 48 = .ok (.istore_n 3, 1))) (by decide +kernel) (by decide +kernel)) <| znil
theorem zS85_1 : ∀ q ∈ zm_c85_1, zm_Snd 85 q.1 q.2 :=
  zcons (a := (49, zi_k (.int (-4)) 51)) (zs_bipush (M := 85) (pc := 49) (zd_eq zk85 (by decide +kernel : decode cX6_lee 49 = .ok (.bipush (-4), 2))) (by decide)) <|
  zcons (a := (51, zi_is 4 53)) (zs_is_w (M := 85) (pc := 51) (zd_eq zk85 (by decide +kernel : decode cX6_lee 51 = .ok (.istore 4, 2))) (by decide +kernel) (by decide +kernel)) <|
  zcons (a := (53, zi_k (.int 0) 54)) (zs_iconst (M := 85) (pc := 53) (zd_eq zk85 (by decide +kernel : decode cX6_lee 53 = .ok (.iconst 0, 1))) (by decide)) <|
  zcons (a := (54, zi_is 5 56)) (zs_is_w (M := 85) (pc := 54) (zd_eq zk85 (by decide +kernel : decode cX6_lee 54 = .ok (.istore 5, 2))) (by decide +kernel) (by decide +kernel)) <|
  zcons (a := (56, zi_il 5 58)) (zs_il_w (M := 85) (pc := 56) (zd_eq zk85 (by decide +kernel : decode cX6_lee 56 = .ok (.iload 5, 2)))) <|
  zcons (a := (58, zi_k (.int 7) 60)) (zs_bipush (M := 85) (pc := 58) (zd_eq zk85 (by decide +kernel : decode cX6_lee 58 = .ok (.bipush 7, 2))) (by decide)) <|
  zcons (a := (60, zi_b2 (fun x y => y ≤ x) 124 63)) (zs_icmpge (M := 85) (pc := 60) (zd_eq zk85 (by decide +kernel : decode cX6_lee 60 = .ok (.if_icmp .ge 64, 3))) (by decide)) <|
  zcons (a := (63, zi_al 0 64)) (zs_al_n (M := 85) (pc := 63) (zd_eq zk85 (by decide +kernel : decode cX6_lee 63 = .ok (.aload_n 0, 1)))) <|
  zcons (a := (64, zi_gr 6 1 67)) (zs_gr (M := 85) (pc := 64) (n := 0) (ci := 6) (k := 1) (C := RX6) (T := TX6) (N := 14) (zd_eq zk85 (by decide +kernel : decode cX6_lee 64 = .ok (.getfield 16, 3))) rfl (by decide) (by decide) zin_6 (zl_f zo85 zw_234)) <|
  zcons (a := (67, zi_al 0 68)) (zs_al_n (M := 85) (pc := 67) (zd_eq zk85 (by decide +kernel : decode cX6_lee 67 = .ok (.aload_n 0, 1)))) <|
  zcons (a := (68, zi_gr 6 0 71)) (zs_gr (M := 85) (pc := 68) (n := 0) (ci := 6) (k := 0) (C := RX6) (T := TX6) (N := 14) (zd_eq zk85 (by decide +kernel : decode cX6_lee 68 = .ok (.getfield 10, 3))) rfl (by decide) (by decide) zin_6 (zl_f zo85 zw_233)) <|
  zcons (a := (71, zi_cv 30 1 1 74 0)) (zs_cv (M := 85) (pc := 71) (M' := 30) (k := 1) (kd := 0) (ci := 1) (q := (RX1, TX1, 4)) (zd_eq zk85 (by decide +kernel : decode cX6_lee 71 = .ok (.invokevirtual 100, 3))) zWd30 (zl_m zo85 zy30 zw_411) (zl_i zy30 zw_412) (zl_e zy30 zw_413) (by decide) rfl (by rw [zo30])) <|
  zcons (a := (74, zi_al 0 75)) (zs_al_n (M := 85) (pc := 74) (zd_eq zk85 (by decide +kernel : decode cX6_lee 74 = .ok (.aload_n 0, 1)))) <|
  zcons (a := (75, zi_gr 6 1 78)) (zs_gr (M := 85) (pc := 75) (n := 0) (ci := 6) (k := 1) (C := RX6) (T := TX6) (N := 14) (zd_eq zk85 (by decide +kernel : decode cX6_lee 75 = .ok (.getfield 16, 3))) rfl (by decide) (by decide) zin_6 (zl_f zo85 zw_234)) <|
  zcons (a := (78, zi_gr 1 2 81)) (zs_gr (M := 85) (pc := 78) (n := 0) (ci := 1) (k := 2) (C := RX1) (T := TX1) (N := 4) (zd_eq zk85 (by decide +kernel : decode cX6_lee 78 = .ok (.getfield 151, 3))) rfl (by decide) (by decide) zin_1 (zl_f zo85 zw_129)) <|
  zcons (a := (81, zi_il 5 83)) (zs_il_w (M := 85) (pc := 81) (zd_eq zk85 (by decide +kernel : decode cX6_lee 81 = .ok (.iload 5, 2)))) <|
  zcons (a := (83, zi_k (.int 4) 84)) (zs_iconst (M := 85) (pc := 83) (zd_eq zk85 (by decide +kernel : decode cX6_lee 83 = .ok (.iconst 4, 1))) (by decide)) <|
  zcons (a := (84, zi_ast 0 (fun x => x) 85)) (zs_iast (M := 85) (pc := 84) (zd_eq zk85 (by decide +kernel : decode cX6_lee 84 = .ok (.iastore, 1)))) <|
  zcons (a := (85, zi_al 0 86)) (zs_al_n (M := 85) (pc := 85) (zd_eq zk85 (by decide +kernel : decode cX6_lee 85 = .ok (.aload_n 0, 1)))) <|
  zcons (a := (86, zi_gr 6 1 89)) (zs_gr (M := 85) (pc := 86) (n := 0) (ci := 6) (k := 1) (C := RX6) (T := TX6) (N := 14) (zd_eq zk85 (by decide +kernel : decode cX6_lee 86 = .ok (.getfield 16, 3))) rfl (by decide) (by decide) zin_6 (zl_f zo85 zw_234)) <|
  zcons (a := (89, zi_il 1 90)) (zs_il_n (M := 85) (pc := 89) (zd_eq zk85 (by decide +kernel : decode cX6_lee 89 = .ok (.iload_n 1, 1)))) <|
  zcons (a := (90, zi_cv 33 1 1 93 0)) (zs_cv (M := 85) (pc := 90) (M' := 33) (k := 1) (kd := 0) (ci := 1) (q := (RX1, TX1, 4)) (zd_eq zk85 (by decide +kernel : decode cX6_lee 90 = .ok (.invokevirtual 184, 3))) zWd33 (zl_m zo85 zy33 zw_527) (zl_i zy33 zw_528) (zl_e zy33 zw_529) (by decide) rfl (by rw [zo33])) <|
  zcons (a := (93, zi_al 0 94)) (zs_al_n (M := 85) (pc := 93) (zd_eq zk85 (by decide +kernel : decode cX6_lee 93 = .ok (.aload_n 0, 1)))) <|
  zcons (a := (94, zi_gr 6 1 97)) (zs_gr (M := 85) (pc := 94) (n := 0) (ci := 6) (k := 1) (C := RX6) (T := TX6) (N := 14) (zd_eq zk85 (by decide +kernel : decode cX6_lee 94 = .ok (.getfield 16, 3))) rfl (by decide) (by decide) zin_6 (zl_f zo85 zw_234)) <| znil
theorem zS85_2 : ∀ q ∈ zm_c85_2, zm_Snd 85 q.1 q.2 :=
  zcons (a := (97, zi_gr 1 0 100)) (zs_gr (M := 85) (pc := 97) (n := 0) (ci := 1) (k := 0) (C := RX1) (T := TX1) (N := 4) (zd_eq zk85 (by decide +kernel : decode cX6_lee 97 = .ok (.getfield 110, 3))) rfl (by decide) (by decide) zin_1 (zl_f zo85 zw_123)) <|
  zcons (a := (100, zi_cv 25 0 2 103 1)) (zs_cv (M := 85) (pc := 100) (M' := 25) (k := 0) (kd := 1) (ci := 2) (q := (RX2, TX2, 2)) (zd_eq zk85 (by decide +kernel : decode cX6_lee 100 = .ok (.invokevirtual 187, 3))) zWd25 (zl_m zo85 zy25 zw_556) (zl_i zy25 zw_557) (zl_e zy25 zw_558) (by decide) rfl (by rw [zo25])) <|
  zcons (a := (103, zi_is 6 105)) (zs_is_w (M := 85) (pc := 103) (zd_eq zk85 (by decide +kernel : decode cX6_lee 103 = .ok (.istore 6, 2))) (by decide +kernel) (by decide +kernel)) <|
  zcons (a := (105, zi_il 6 107)) (zs_il_w (M := 85) (pc := 105) (zd_eq zk85 (by decide +kernel : decode cX6_lee 105 = .ok (.iload 6, 2)))) <|
  zcons (a := (107, zi_il 3 108)) (zs_il_n (M := 85) (pc := 107) (zd_eq zk85 (by decide +kernel : decode cX6_lee 107 = .ok (.iload_n 3, 1)))) <|
  zcons (a := (108, zi_b2 (fun x y => x ≤ y) 118 111)) (zs_icmple (M := 85) (pc := 108) (zd_eq zk85 (by decide +kernel : decode cX6_lee 108 = .ok (.if_icmp .le 10, 3))) (by decide)) <|
  zcons (a := (111, zi_il 6 113)) (zs_il_w (M := 85) (pc := 111) (zd_eq zk85 (by decide +kernel : decode cX6_lee 111 = .ok (.iload 6, 2)))) <|
  zcons (a := (113, zi_is 3 114)) (zs_is_n (M := 85) (pc := 113) (zd_eq zk85 (by decide +kernel : decode cX6_lee 113 = .ok (.istore_n 3, 1))) (by decide +kernel) (by decide +kernel)) <|
  zcons (a := (114, zi_il 5 116)) (zs_il_w (M := 85) (pc := 114) (zd_eq zk85 (by decide +kernel : decode cX6_lee 114 = .ok (.iload 5, 2)))) <|
  zcons (a := (116, zi_is 4 118)) (zs_is_w (M := 85) (pc := 116) (zd_eq zk85 (by decide +kernel : decode cX6_lee 116 = .ok (.istore 4, 2))) (by decide +kernel) (by decide +kernel)) <|
  zcons (a := (118, zi_inc 5 1 121)) (zs_inc (M := 85) (pc := 118) (zd_eq zk85 (by decide +kernel : decode cX6_lee 118 = .ok (.iinc 5 1, 3))) (by decide) (by decide +kernel) (by decide +kernel)) <|
  zcons (a := (121, zi_go 56)) (zs_goto (M := 85) (pc := 121) (zd_eq zk85 (by decide +kernel : decode cX6_lee 121 = .ok (.goto (-65), 3))) (by decide)) <|
  zcons (a := (124, zi_il 4 126)) (zs_il_w (M := 85) (pc := 124) (zd_eq zk85 (by decide +kernel : decode cX6_lee 124 = .ok (.iload 4, 2)))) <|
  zcons (a := (126, zi_il 3 127)) (zs_il_n (M := 85) (pc := 126) (zd_eq zk85 (by decide +kernel : decode cX6_lee 126 = .ok (.iload_n 3, 1)))) <|
  zcons (a := (127, zi_il 2 128)) (zs_il_n (M := 85) (pc := 127) (zd_eq zk85 (by decide +kernel : decode cX6_lee 127 = .ok (.iload_n 2, 1)))) <|
  zcons (a := (128, zi_cs 108 3 131 1)) (zs_cs (M := 85) (pc := 128) (M' := 108) (k := 3) (kd := 1) (zd_eq zk85 (by decide +kernel : decode cX6_lee 128 = .ok (.invokestatic 214, 3))) zWd108 (zl_m zo85 zy108 zw_624) (zl_s zy108 zw_625)) <|
  zcons (a := (131, zi_ri)) (zs_ri (M := 85) (pc := 131) (zd_eq zk85 (by decide +kernel : decode cX6_lee 131 = .ok (.ireturn, 1))) rfl) <| znil
theorem zS85 : ∀ pc, zm_Snd 85 pc (zm_lk2 zm_c85 pc) := zlk2 (zcons2 zS85_0 (zcons2 zS85_1 (zcons2 zS85_2 (znil2))))
theorem zS86_0 : ∀ q ∈ zm_c86_0, zm_Snd 86 q.1 q.2 :=
  zcons (a := (0, zi_al 0 1)) (zs_al_n (M := 86) (pc := 0) (zd_eq zk86 (by decide +kernel : decode cX6_kind 0 = .ok (.aload_n 0, 1)))) <|
  zcons (a := (1, zi_il 1 2)) (zs_il_n (M := 86) (pc := 1) (zd_eq zk86 (by decide +kernel : decode cX6_kind 1 = .ok (.iload_n 1, 1)))) <|
  zcons (a := (2, zi_cv 106 1 6 5 1)) (zs_cv (M := 86) (pc := 2) (M' := 106) (k := 1) (kd := 1) (ci := 6) (q := (RX6, TX6, 14)) (zd_eq zk86 (by decide +kernel : decode cX6_kind 2 = .ok (.invokevirtual 133, 3))) zWd106 (zl_m zo86 zy106 zw_459) (zl_i zy106 zw_461) (zl_e zy106 zw_9) (by decide) rfl (by rw [zo106])) <|
  zcons (a := (5, zi_b1 (fun x => x = 0) 16 8)) (zs_ifeq (M := 86) (pc := 5) (zd_eq zk86 (by decide +kernel : decode cX6_kind 5 = .ok (.ifCond .eq 11, 3))) (by decide)) <|
  zcons (a := (8, zi_il 2 9)) (zs_il_n (M := 86) (pc := 8) (zd_eq zk86 (by decide +kernel : decode cX6_kind 8 = .ok (.iload_n 2, 1)))) <|
  zcons (a := (9, zi_k (.int 1) 10)) (zs_iconst (M := 86) (pc := 9) (zd_eq zk86 (by decide +kernel : decode cX6_kind 9 = .ok (.iconst 1, 1))) (by decide)) <|
  zcons (a := (10, zi_cs 105 2 13 1)) (zs_cs (M := 86) (pc := 10) (M' := 105) (k := 2) (kd := 1) (zd_eq zk86 (by decide +kernel : decode cX6_kind 10 = .ok (.invokestatic 67, 3))) zWd105 (zl_m zo86 zy105 zw_280) (zl_s zy105 zw_281)) <|
  zcons (a := (13, zi_b1 (fun x => ¬ x = 0) 18 16)) (zs_ifne (M := 86) (pc := 13) (zd_eq zk86 (by decide +kernel : decode cX6_kind 13 = .ok (.ifCond .ne 5, 3))) (by decide)) <|
  zcons (a := (16, zi_k (.int (-1)) 17)) (zs_iconst (M := 86) (pc := 16) (zd_eq zk86 (by decide +kernel : decode cX6_kind 16 = .ok (.iconst (-1), 1))) (by decide)) <|
  zcons (a := (17, zi_ri)) (zs_ri (M := 86) (pc := 17) (zd_eq zk86 (by decide +kernel : decode cX6_kind 17 = .ok (.ireturn, 1))) rfl) <|
  zcons (a := (18, zi_al 0 19)) (zs_al_n (M := 86) (pc := 18) (zd_eq zk86 (by decide +kernel : decode cX6_kind 18 = .ok (.aload_n 0, 1)))) <|
  zcons (a := (19, zi_il 1 20)) (zs_il_n (M := 86) (pc := 19) (zd_eq zk86 (by decide +kernel : decode cX6_kind 19 = .ok (.iload_n 1, 1)))) <|
  zcons (a := (20, zi_k (.int 0) 21)) (zs_iconst (M := 86) (pc := 20) (zd_eq zk86 (by decide +kernel : decode cX6_kind 20 = .ok (.iconst 0, 1))) (by decide)) <|
  zcons (a := (21, zi_il 2 22)) (zs_il_n (M := 86) (pc := 21) (zd_eq zk86 (by decide +kernel : decode cX6_kind 21 = .ok (.iload_n 2, 1)))) <|
  zcons (a := (22, zi_cv 112 3 6 25 1)) (zs_cv (M := 86) (pc := 22) (M' := 112) (k := 3) (kd := 1) (ci := 6) (q := (RX6, TX6, 14)) (zd_eq zk86 (by decide +kernel : decode cX6_kind 22 = .ok (.invokevirtual 224, 3))) zWd112 (zl_m zo86 zy112 zw_647) (zl_i zy112 zw_649) (zl_e zy112 zw_12) (by decide) rfl (by rw [zo112])) <|
  zcons (a := (25, zi_ri)) (zs_ri (M := 86) (pc := 25) (zd_eq zk86 (by decide +kernel : decode cX6_kind 25 = .ok (.ireturn, 1))) rfl) <| znil
theorem zS86 : ∀ pc, zm_Snd 86 pc (zm_lk2 zm_c86 pc) := zlk2 (zcons2 zS86_0 (znil2))
theorem zS87_0 : ∀ q ∈ zm_c87_0, zm_Snd 87 q.1 q.2 :=
  zcons (a := (0, zi_al 0 1)) (zs_al_n (M := 87) (pc := 0) (zd_eq zk87 (by decide +kernel : decode cX6_face 0 = .ok (.aload_n 0, 1)))) <|
  zcons (a := (1, zi_il 1 2)) (zs_il_n (M := 87) (pc := 1) (zd_eq zk87 (by decide +kernel : decode cX6_face 1 = .ok (.iload_n 1, 1)))) <|
  zcons (a := (2, zi_cv 106 1 6 5 1)) (zs_cv (M := 87) (pc := 2) (M' := 106) (k := 1) (kd := 1) (ci := 6) (q := (RX6, TX6, 14)) (zd_eq zk87 (by decide +kernel : decode cX6_face 2 = .ok (.invokevirtual 133, 3))) zWd106 (zl_m zo87 zy106 zw_459) (zl_i zy106 zw_461) (zl_e zy106 zw_9) (by decide) rfl (by rw [zo106])) <|
  zcons (a := (5, zi_b1 (fun x => x = 0) 16 8)) (zs_ifeq (M := 87) (pc := 5) (zd_eq zk87 (by decide +kernel : decode cX6_face 5 = .ok (.ifCond .eq 11, 3))) (by decide)) <|
  zcons (a := (8, zi_il 2 9)) (zs_il_n (M := 87) (pc := 8) (zd_eq zk87 (by decide +kernel : decode cX6_face 8 = .ok (.iload_n 2, 1)))) <|
  zcons (a := (9, zi_k (.int 1) 10)) (zs_iconst (M := 87) (pc := 9) (zd_eq zk87 (by decide +kernel : decode cX6_face 9 = .ok (.iconst 1, 1))) (by decide)) <|
  zcons (a := (10, zi_cs 105 2 13 1)) (zs_cs (M := 87) (pc := 10) (M' := 105) (k := 2) (kd := 1) (zd_eq zk87 (by decide +kernel : decode cX6_face 10 = .ok (.invokestatic 67, 3))) zWd105 (zl_m zo87 zy105 zw_280) (zl_s zy105 zw_281)) <|
  zcons (a := (13, zi_b1 (fun x => ¬ x = 0) 18 16)) (zs_ifne (M := 87) (pc := 13) (zd_eq zk87 (by decide +kernel : decode cX6_face 13 = .ok (.ifCond .ne 5, 3))) (by decide)) <|
  zcons (a := (16, zi_k (.int (-1)) 17)) (zs_iconst (M := 87) (pc := 16) (zd_eq zk87 (by decide +kernel : decode cX6_face 16 = .ok (.iconst (-1), 1))) (by decide)) <|
  zcons (a := (17, zi_ri)) (zs_ri (M := 87) (pc := 17) (zd_eq zk87 (by decide +kernel : decode cX6_face 17 = .ok (.ireturn, 1))) rfl) <|
  zcons (a := (18, zi_al 0 19)) (zs_al_n (M := 87) (pc := 18) (zd_eq zk87 (by decide +kernel : decode cX6_face 18 = .ok (.aload_n 0, 1)))) <|
  zcons (a := (19, zi_il 1 20)) (zs_il_n (M := 87) (pc := 19) (zd_eq zk87 (by decide +kernel : decode cX6_face 19 = .ok (.iload_n 1, 1)))) <|
  zcons (a := (20, zi_k (.int 2) 21)) (zs_iconst (M := 87) (pc := 20) (zd_eq zk87 (by decide +kernel : decode cX6_face 20 = .ok (.iconst 2, 1))) (by decide)) <|
  zcons (a := (21, zi_il 2 22)) (zs_il_n (M := 87) (pc := 21) (zd_eq zk87 (by decide +kernel : decode cX6_face 21 = .ok (.iload_n 2, 1)))) <|
  zcons (a := (22, zi_cv 112 3 6 25 1)) (zs_cv (M := 87) (pc := 22) (M' := 112) (k := 3) (kd := 1) (ci := 6) (q := (RX6, TX6, 14)) (zd_eq zk87 (by decide +kernel : decode cX6_face 22 = .ok (.invokevirtual 224, 3))) zWd112 (zl_m zo87 zy112 zw_647) (zl_i zy112 zw_649) (zl_e zy112 zw_12) (by decide) rfl (by rw [zo112])) <|
  zcons (a := (25, zi_ri)) (zs_ri (M := 87) (pc := 25) (zd_eq zk87 (by decide +kernel : decode cX6_face 25 = .ok (.ireturn, 1))) rfl) <| znil
theorem zS87 : ∀ pc, zm_Snd 87 pc (zm_lk2 zm_c87 pc) := zlk2 (zcons2 zS87_0 (znil2))
theorem zS88_0 : ∀ q ∈ zm_c88_0, zm_Snd 88 q.1 q.2 :=
  zcons (a := (0, zi_al 0 1)) (zs_al_n (M := 88) (pc := 0) (zd_eq zk88 (by decide +kernel : decode cX6_thaw 0 = .ok (.aload_n 0, 1)))) <|
  zcons (a := (1, zi_il 1 2)) (zs_il_n (M := 88) (pc := 1) (zd_eq zk88 (by decide +kernel : decode cX6_thaw 1 = .ok (.iload_n 1, 1)))) <|
  zcons (a := (2, zi_cv 106 1 6 5 1)) (zs_cv (M := 88) (pc := 2) (M' := 106) (k := 1) (kd := 1) (ci := 6) (q := (RX6, TX6, 14)) (zd_eq zk88 (by decide +kernel : decode cX6_thaw 2 = .ok (.invokevirtual 133, 3))) zWd106 (zl_m zo88 zy106 zw_459) (zl_i zy106 zw_461) (zl_e zy106 zw_9) (by decide) rfl (by rw [zo106])) <|
  zcons (a := (5, zi_b1 (fun x => x = 0) 17 8)) (zs_ifeq (M := 88) (pc := 5) (zd_eq zk88 (by decide +kernel : decode cX6_thaw 5 = .ok (.ifCond .eq 12, 3))) (by decide)) <|
  zcons (a := (8, zi_il 2 9)) (zs_il_n (M := 88) (pc := 8) (zd_eq zk88 (by decide +kernel : decode cX6_thaw 8 = .ok (.iload_n 2, 1)))) <|
  zcons (a := (9, zi_k (.int 60) 11)) (zs_bipush (M := 88) (pc := 9) (zd_eq zk88 (by decide +kernel : decode cX6_thaw 9 = .ok (.bipush 60, 2))) (by decide)) <|
  zcons (a := (11, zi_cs 105 2 14 1)) (zs_cs (M := 88) (pc := 11) (M' := 105) (k := 2) (kd := 1) (zd_eq zk88 (by decide +kernel : decode cX6_thaw 11 = .ok (.invokestatic 67, 3))) zWd105 (zl_m zo88 zy105 zw_280) (zl_s zy105 zw_281)) <|
  zcons (a := (14, zi_b1 (fun x => ¬ x = 0) 19 17)) (zs_ifne (M := 88) (pc := 14) (zd_eq zk88 (by decide +kernel : decode cX6_thaw 14 = .ok (.ifCond .ne 5, 3))) (by decide)) <|
  zcons (a := (17, zi_k (.int (-1)) 18)) (zs_iconst (M := 88) (pc := 17) (zd_eq zk88 (by decide +kernel : decode cX6_thaw 17 = .ok (.iconst (-1), 1))) (by decide)) <|
  zcons (a := (18, zi_ri)) (zs_ri (M := 88) (pc := 18) (zd_eq zk88 (by decide +kernel : decode cX6_thaw 18 = .ok (.ireturn, 1))) rfl) <|
  zcons (a := (19, zi_k (.int 9) 21)) (zs_bipush (M := 88) (pc := 19) (zd_eq zk88 (by decide +kernel : decode cX6_thaw 19 = .ok (.bipush 9, 2))) (by decide)) <|
  zcons (a := (21, zi_is 3 22)) (zs_is_n (M := 88) (pc := 21) (zd_eq zk88 (by decide +kernel : decode cX6_thaw 21 = .ok (.istore_n 3, 1))) (by decide +kernel) (by decide +kernel)) <|
  zcons (a := (22, zi_il 3 23)) (zs_il_n (M := 88) (pc := 22) (zd_eq zk88 (by decide +kernel : decode cX6_thaw 22 = .ok (.iload_n 3, 1)))) <|
  zcons (a := (23, zi_b1 (fun x => x < 0) 82 26)) (zs_iflt (M := 88) (pc := 23) (zd_eq zk88 (by decide +kernel : decode cX6_thaw 23 = .ok (.ifCond .lt 59, 3))) (by decide)) <|
  zcons (a := (26, zi_al 0 27)) (zs_al_n (M := 88) (pc := 26) (zd_eq zk88 (by decide +kernel : decode cX6_thaw 26 = .ok (.aload_n 0, 1)))) <|
  zcons (a := (27, zi_gr 6 1 30)) (zs_gr (M := 88) (pc := 27) (n := 0) (ci := 6) (k := 1) (C := RX6) (T := TX6) (N := 14) (zd_eq zk88 (by decide +kernel : decode cX6_thaw 27 = .ok (.getfield 16, 3))) rfl (by decide) (by decide) zin_6 (zl_f zo88 zw_234)) <|
  zcons (a := (30, zi_al 0 31)) (zs_al_n (M := 88) (pc := 30) (zd_eq zk88 (by decide +kernel : decode cX6_thaw 30 = .ok (.aload_n 0, 1)))) <|
  zcons (a := (31, zi_gr 6 0 34)) (zs_gr (M := 88) (pc := 31) (n := 0) (ci := 6) (k := 0) (C := RX6) (T := TX6) (N := 14) (zd_eq zk88 (by decide +kernel : decode cX6_thaw 31 = .ok (.getfield 10, 3))) rfl (by decide) (by decide) zin_6 (zl_f zo88 zw_233)) <|
  zcons (a := (34, zi_cv 30 1 1 37 0)) (zs_cv (M := 88) (pc := 34) (M' := 30) (k := 1) (kd := 0) (ci := 1) (q := (RX1, TX1, 4)) (zd_eq zk88 (by decide +kernel : decode cX6_thaw 34 = .ok (.invokevirtual 100, 3))) zWd30 (zl_m zo88 zy30 zw_411) (zl_i zy30 zw_412) (zl_e zy30 zw_413) (by decide) rfl (by rw [zo30])) <|
  zcons (a := (37, zi_al 0 38)) (zs_al_n (M := 88) (pc := 37) (zd_eq zk88 (by decide +kernel : decode cX6_thaw 37 = .ok (.aload_n 0, 1)))) <|
  zcons (a := (38, zi_gr 6 1 41)) (zs_gr (M := 88) (pc := 38) (n := 0) (ci := 6) (k := 1) (C := RX6) (T := TX6) (N := 14) (zd_eq zk88 (by decide +kernel : decode cX6_thaw 38 = .ok (.getfield 16, 3))) rfl (by decide) (by decide) zin_6 (zl_f zo88 zw_234)) <|
  zcons (a := (41, zi_gr 1 1 44)) (zs_gr (M := 88) (pc := 41) (n := 0) (ci := 1) (k := 1) (C := RX1) (T := TX1) (N := 4) (zd_eq zk88 (by decide +kernel : decode cX6_thaw 41 = .ok (.getfield 141, 3))) rfl (by decide) (by decide) zin_1 (zl_f zo88 zw_126)) <|
  zcons (a := (44, zi_il 3 45)) (zs_il_n (M := 88) (pc := 44) (zd_eq zk88 (by decide +kernel : decode cX6_thaw 44 = .ok (.iload_n 3, 1)))) <|
  zcons (a := (45, zi_cs 1 2 48 0)) (zs_cs (M := 88) (pc := 45) (M' := 1) (k := 2) (kd := 0) (zd_eq zk88 (by decide +kernel : decode cX6_thaw 45 = .ok (.invokestatic 227, 3))) zWd1 (zl_m zo88 zy1 zw_659) (zl_s zy1 zw_119)) <| znil
theorem zS88_1 : ∀ q ∈ zm_c88_1, zm_Snd 88 q.1 q.2 :=
  zcons (a := (48, zi_al 0 49)) (zs_al_n (M := 88) (pc := 48) (zd_eq zk88 (by decide +kernel : decode cX6_thaw 48 = .ok (.aload_n 0, 1)))) <|
  zcons (a := (49, zi_gr 6 1 52)) (zs_gr (M := 88) (pc := 49) (n := 0) (ci := 6) (k := 1) (C := RX6) (T := TX6) (N := 14) (zd_eq zk88 (by decide +kernel : decode cX6_thaw 49 = .ok (.getfield 16, 3))) rfl (by decide) (by decide) zin_6 (zl_f zo88 zw_234)) <|
  zcons (a := (52, zi_il 2 53)) (zs_il_n (M := 88) (pc := 52) (zd_eq zk88 (by decide +kernel : decode cX6_thaw 52 = .ok (.iload_n 2, 1)))) <|
  zcons (a := (53, zi_cv 33 1 1 56 0)) (zs_cv (M := 88) (pc := 53) (M' := 33) (k := 1) (kd := 0) (ci := 1) (q := (RX1, TX1, 4)) (zd_eq zk88 (by decide +kernel : decode cX6_thaw 53 = .ok (.invokevirtual 184, 3))) zWd33 (zl_m zo88 zy33 zw_527) (zl_i zy33 zw_528) (zl_e zy33 zw_529) (by decide) rfl (by rw [zo33])) <|
  zcons (a := (56, zi_al 0 57)) (zs_al_n (M := 88) (pc := 56) (zd_eq zk88 (by decide +kernel : decode cX6_thaw 56 = .ok (.aload_n 0, 1)))) <|
  zcons (a := (57, zi_gr 6 1 60)) (zs_gr (M := 88) (pc := 57) (n := 0) (ci := 6) (k := 1) (C := RX6) (T := TX6) (N := 14) (zd_eq zk88 (by decide +kernel : decode cX6_thaw 57 = .ok (.getfield 16, 3))) rfl (by decide) (by decide) zin_6 (zl_f zo88 zw_234)) <|
  zcons (a := (60, zi_gr 1 0 63)) (zs_gr (M := 88) (pc := 60) (n := 0) (ci := 1) (k := 0) (C := RX1) (T := TX1) (N := 4) (zd_eq zk88 (by decide +kernel : decode cX6_thaw 60 = .ok (.getfield 110, 3))) rfl (by decide) (by decide) zin_1 (zl_f zo88 zw_123)) <|
  zcons (a := (63, zi_gr 2 0 66)) (zs_gr (M := 88) (pc := 63) (n := 0) (ci := 2) (k := 0) (C := RX2) (T := TX2) (N := 2) (zd_eq zk88 (by decide +kernel : decode cX6_thaw 63 = .ok (.getfield 137, 3))) rfl (by decide) (by decide) zin_2 (zl_f zo88 zw_108)) <|
  zcons (a := (66, zi_il 1 67)) (zs_il_n (M := 88) (pc := 66) (zd_eq zk88 (by decide +kernel : decode cX6_thaw 66 = .ok (.iload_n 1, 1)))) <|
  zcons (a := (67, zi_qld 3 68)) (zs_qld (M := 88) (pc := 67) (t := 3) rfl (zd_eq zk88 (by decide +kernel : decode cX6_thaw 67 = .ok (.aaload, 1)))) <|
  zcons (a := (68, zi_cv 13 0 0 71 1)) (zs_cv (M := 88) (pc := 68) (M' := 13) (k := 0) (kd := 1) (ci := 0) (q := (RX0, TX0, 3)) (zd_eq zk88 (by decide +kernel : decode cX6_thaw 68 = .ok (.invokevirtual 171, 3))) zWd13 (zl_m zo88 zy13 zw_510) (zl_i zy13 zw_439) (zl_e zy13 zw_440) (by decide) rfl (by rw [zo13])) <|
  zcons (a := (71, zi_b1 (fun x => x = 0) 76 74)) (zs_ifeq (M := 88) (pc := 71) (zd_eq zk88 (by decide +kernel : decode cX6_thaw 71 = .ok (.ifCond .eq 5, 3))) (by decide)) <|
  zcons (a := (74, zi_il 3 75)) (zs_il_n (M := 88) (pc := 74) (zd_eq zk88 (by decide +kernel : decode cX6_thaw 74 = .ok (.iload_n 3, 1)))) <|
  zcons (a := (75, zi_ri)) (zs_ri (M := 88) (pc := 75) (zd_eq zk88 (by decide +kernel : decode cX6_thaw 75 = .ok (.ireturn, 1))) rfl) <|
  zcons (a := (76, zi_inc 3 (-1) 79)) (zs_inc (M := 88) (pc := 76) (zd_eq zk88 (by decide +kernel : decode cX6_thaw 76 = .ok (.iinc 3 (-1), 3))) (by decide) (by decide +kernel) (by decide +kernel)) <|
  zcons (a := (79, zi_go 22)) (zs_goto (M := 88) (pc := 79) (zd_eq zk88 (by decide +kernel : decode cX6_thaw 79 = .ok (.goto (-57), 3))) (by decide)) <|
  zcons (a := (82, zi_k (.int (-4)) 84)) (zs_bipush (M := 88) (pc := 82) (zd_eq zk88 (by decide +kernel : decode cX6_thaw 82 = .ok (.bipush (-4), 2))) (by decide)) <|
  zcons (a := (84, zi_ri)) (zs_ri (M := 88) (pc := 84) (zd_eq zk88 (by decide +kernel : decode cX6_thaw 84 = .ok (.ireturn, 1))) rfl) <| znil
theorem zS88 : ∀ pc, zm_Snd 88 pc (zm_lk2 zm_c88 pc) := zlk2 (zcons2 zS88_0 (zcons2 zS88_1 (znil2)))
theorem zS89_0 : ∀ q ∈ zm_c89_0, zm_Snd 89 q.1 q.2 :=
  zcons (a := (0, zi_al 0 1)) (zs_al_n (M := 89) (pc := 0) (zd_eq zk89 (by decide +kernel : decode cX6_luck 0 = .ok (.aload_n 0, 1)))) <|
  zcons (a := (1, zi_il 1 2)) (zs_il_n (M := 89) (pc := 1) (zd_eq zk89 (by decide +kernel : decode cX6_luck 1 = .ok (.iload_n 1, 1)))) <|
  zcons (a := (2, zi_il 2 3)) (zs_il_n (M := 89) (pc := 2) (zd_eq zk89 (by decide +kernel : decode cX6_luck 2 = .ok (.iload_n 2, 1)))) <|
  zcons (a := (3, zi_il 3 4)) (zs_il_n (M := 89) (pc := 3) (zd_eq zk89 (by decide +kernel : decode cX6_luck 3 = .ok (.iload_n 3, 1)))) <|
  zcons (a := (4, zi_k (.int 0) 5)) (zs_iconst (M := 89) (pc := 4) (zd_eq zk89 (by decide +kernel : decode cX6_luck 4 = .ok (.iconst 0, 1))) (by decide)) <|
  zcons (a := (5, zi_cv 113 4 6 8 2)) (zs_cv (M := 89) (pc := 5) (M' := 113) (k := 4) (kd := 2) (ci := 6) (q := (RX6, TX6, 14)) (zd_eq zk89 (by decide +kernel : decode cX6_luck 5 = .ok (.invokevirtual 233, 3))) zWd113 (zl_m zo89 zy113 zw_664) (zl_i zy113 zw_666) (zl_e zy113 zw_13) (by decide) rfl (by rw [zo113])) <|
  zcons (a := (8, zi_rl)) (zs_rl (M := 89) (pc := 8) (zd_eq zk89 (by decide +kernel : decode cX6_luck 8 = .ok (.lreturn, 1))) rfl) <| znil
theorem zS89 : ∀ pc, zm_Snd 89 pc (zm_lk2 zm_c89 pc) := zlk2 (zcons2 zS89_0 (znil2))
theorem zS90_0 : ∀ q ∈ zm_c90_0, zm_Snd 90 q.1 q.2 :=
  zcons (a := (0, zi_al 0 1)) (zs_al_n (M := 90) (pc := 0) (zd_eq zk90 (by decide +kernel : decode cX6_mean 0 = .ok (.aload_n 0, 1)))) <|
  zcons (a := (1, zi_il 1 2)) (zs_il_n (M := 90) (pc := 1) (zd_eq zk90 (by decide +kernel : decode cX6_mean 1 = .ok (.iload_n 1, 1)))) <|
  zcons (a := (2, zi_il 2 3)) (zs_il_n (M := 90) (pc := 2) (zd_eq zk90 (by decide +kernel : decode cX6_mean 2 = .ok (.iload_n 2, 1)))) <|
  zcons (a := (3, zi_il 3 4)) (zs_il_n (M := 90) (pc := 3) (zd_eq zk90 (by decide +kernel : decode cX6_mean 3 = .ok (.iload_n 3, 1)))) <|
  zcons (a := (4, zi_k (.int 1) 5)) (zs_iconst (M := 90) (pc := 4) (zd_eq zk90 (by decide +kernel : decode cX6_mean 4 = .ok (.iconst 1, 1))) (by decide)) <|
  zcons (a := (5, zi_cv 113 4 6 8 2)) (zs_cv (M := 90) (pc := 5) (M' := 113) (k := 4) (kd := 2) (ci := 6) (q := (RX6, TX6, 14)) (zd_eq zk90 (by decide +kernel : decode cX6_mean 5 = .ok (.invokevirtual 233, 3))) zWd113 (zl_m zo90 zy113 zw_664) (zl_i zy113 zw_666) (zl_e zy113 zw_13) (by decide) rfl (by rw [zo113])) <|
  zcons (a := (8, zi_rl)) (zs_rl (M := 90) (pc := 8) (zd_eq zk90 (by decide +kernel : decode cX6_mean 8 = .ok (.lreturn, 1))) rfl) <| znil
theorem zS90 : ∀ pc, zm_Snd 90 pc (zm_lk2 zm_c90 pc) := zlk2 (zcons2 zS90_0 (znil2))
theorem zS91_0 : ∀ q ∈ zm_c91_0, zm_Snd 91 q.1 q.2 :=
  zcons (a := (0, zi_il 1 1)) (zs_il_n (M := 91) (pc := 0) (zd_eq zk91 (by decide +kernel : decode cX6_see 0 = .ok (.iload_n 1, 1)))) <|
  zcons (a := (1, zi_k (.int 30) 3)) (zs_bipush (M := 91) (pc := 1) (zd_eq zk91 (by decide +kernel : decode cX6_see 1 = .ok (.bipush 30, 2))) (by decide)) <|
  zcons (a := (3, zi_cs 105 2 6 1)) (zs_cs (M := 91) (pc := 3) (M' := 105) (k := 2) (kd := 1) (zd_eq zk91 (by decide +kernel : decode cX6_see 3 = .ok (.invokestatic 67, 3))) zWd105 (zl_m zo91 zy105 zw_280) (zl_s zy105 zw_281)) <|
  zcons (a := (6, zi_b1 (fun x => x = 0) 23 9)) (zs_ifeq (M := 91) (pc := 6) (zd_eq zk91 (by decide +kernel : decode cX6_see 6 = .ok (.ifCond .eq 17, 3))) (by decide)) <|
  zcons (a := (9, zi_il 2 10)) (zs_il_n (M := 91) (pc := 9) (zd_eq zk91 (by decide +kernel : decode cX6_see 9 = .ok (.iload_n 2, 1)))) <|
  zcons (a := (10, zi_k (.int 3) 11)) (zs_iconst (M := 91) (pc := 10) (zd_eq zk91 (by decide +kernel : decode cX6_see 10 = .ok (.iconst 3, 1))) (by decide)) <|
  zcons (a := (11, zi_cs 105 2 14 1)) (zs_cs (M := 91) (pc := 11) (M' := 105) (k := 2) (kd := 1) (zd_eq zk91 (by decide +kernel : decode cX6_see 11 = .ok (.invokestatic 67, 3))) zWd105 (zl_m zo91 zy105 zw_280) (zl_s zy105 zw_281)) <|
  zcons (a := (14, zi_b1 (fun x => ¬ x = 0) 25 17)) (zs_ifne (M := 91) (pc := 14) (zd_eq zk91 (by decide +kernel : decode cX6_see 14 = .ok (.ifCond .ne 11, 3))) (by decide)) <|
  zcons (a := (17, zi_il 2 18)) (zs_il_n (M := 91) (pc := 17) (zd_eq zk91 (by decide +kernel : decode cX6_see 17 = .ok (.iload_n 2, 1)))) <|
  zcons (a := (18, zi_k (.int 9) 20)) (zs_bipush (M := 91) (pc := 18) (zd_eq zk91 (by decide +kernel : decode cX6_see 18 = .ok (.bipush 9, 2))) (by decide)) <|
  zcons (a := (20, zi_b2 (fun x y => x = y) 25 23)) (zs_icmpeq (M := 91) (pc := 20) (zd_eq zk91 (by decide +kernel : decode cX6_see 20 = .ok (.if_icmp .eq 5, 3))) (by decide)) <|
  zcons (a := (23, zi_k (.int (-1)) 24)) (zs_iconst (M := 91) (pc := 23) (zd_eq zk91 (by decide +kernel : decode cX6_see 23 = .ok (.iconst (-1), 1))) (by decide)) <|
  zcons (a := (24, zi_ri)) (zs_ri (M := 91) (pc := 24) (zd_eq zk91 (by decide +kernel : decode cX6_see 24 = .ok (.ireturn, 1))) rfl) <|
  zcons (a := (25, zi_al 0 26)) (zs_al_n (M := 91) (pc := 25) (zd_eq zk91 (by decide +kernel : decode cX6_see 25 = .ok (.aload_n 0, 1)))) <|
  zcons (a := (26, zi_gi 6 9 29)) (zs_gi (M := 91) (pc := 26) (n := 0) (ci := 6) (k := 9) (C := RX6) (T := TX6) (N := 14) (zd_eq zk91 (by decide +kernel : decode cX6_see 26 = .ok (.getfield 104, 3))) rfl (by decide) (by decide) zin_6 (zl_f zo91 zw_242)) <|
  zcons (a := (29, zi_k (.int 6) 31)) (zs_bipush (M := 91) (pc := 29) (zd_eq zk91 (by decide +kernel : decode cX6_see 29 = .ok (.bipush 6, 2))) (by decide)) <|
  zcons (a := (31, zi_b2 (fun x y => x < y) 37 34)) (zs_icmplt (M := 91) (pc := 31) (zd_eq zk91 (by decide +kernel : decode cX6_see 31 = .ok (.if_icmp .lt 6, 3))) (by decide)) <|
  zcons (a := (34, zi_k (.int (-3)) 36)) (zs_bipush (M := 91) (pc := 34) (zd_eq zk91 (by decide +kernel : decode cX6_see 34 = .ok (.bipush (-3), 2))) (by decide)) <|
  zcons (a := (36, zi_ri)) (zs_ri (M := 91) (pc := 36) (zd_eq zk91 (by decide +kernel : decode cX6_see 36 = .ok (.ireturn, 1))) rfl) <|
  zcons (a := (37, zi_al 0 38)) (zs_al_n (M := 91) (pc := 37) (zd_eq zk91 (by decide +kernel : decode cX6_see 37 = .ok (.aload_n 0, 1)))) <|
  zcons (a := (38, zi_gr 6 7 41)) (zs_gr (M := 91) (pc := 38) (n := 0) (ci := 6) (k := 7) (C := RX6) (T := TX6) (N := 14) (zd_eq zk91 (by decide +kernel : decode cX6_see 38 = .ok (.getfield 45, 3))) rfl (by decide) (by decide) zin_6 (zl_f zo91 zw_240)) <|
  zcons (a := (41, zi_al 0 42)) (zs_al_n (M := 91) (pc := 41) (zd_eq zk91 (by decide +kernel : decode cX6_see 41 = .ok (.aload_n 0, 1)))) <|
  zcons (a := (42, zi_gi 6 9 45)) (zs_gi (M := 91) (pc := 42) (n := 0) (ci := 6) (k := 9) (C := RX6) (T := TX6) (N := 14) (zd_eq zk91 (by decide +kernel : decode cX6_see 42 = .ok (.getfield 104, 3))) rfl (by decide) (by decide) zin_6 (zl_f zo91 zw_242)) <|
  zcons (a := (45, zi_il 1 46)) (zs_il_n (M := 91) (pc := 45) (zd_eq zk91 (by decide +kernel : decode cX6_see 45 = .ok (.iload_n 1, 1)))) <| znil
theorem zS91_1 : ∀ q ∈ zm_c91_1, zm_Snd 91 q.1 q.2 :=
  zcons (a := (46, zi_ast 0 (fun x => x) 47)) (zs_iast (M := 91) (pc := 46) (zd_eq zk91 (by decide +kernel : decode cX6_see 46 = .ok (.iastore, 1)))) <|
  zcons (a := (47, zi_al 0 48)) (zs_al_n (M := 91) (pc := 47) (zd_eq zk91 (by decide +kernel : decode cX6_see 47 = .ok (.aload_n 0, 1)))) <|
  zcons (a := (48, zi_gr 6 8 51)) (zs_gr (M := 91) (pc := 48) (n := 0) (ci := 6) (k := 8) (C := RX6) (T := TX6) (N := 14) (zd_eq zk91 (by decide +kernel : decode cX6_see 48 = .ok (.getfield 49, 3))) rfl (by decide) (by decide) zin_6 (zl_f zo91 zw_241)) <|
  zcons (a := (51, zi_al 0 52)) (zs_al_n (M := 91) (pc := 51) (zd_eq zk91 (by decide +kernel : decode cX6_see 51 = .ok (.aload_n 0, 1)))) <|
  zcons (a := (52, zi_gi 6 9 55)) (zs_gi (M := 91) (pc := 52) (n := 0) (ci := 6) (k := 9) (C := RX6) (T := TX6) (N := 14) (zd_eq zk91 (by decide +kernel : decode cX6_see 52 = .ok (.getfield 104, 3))) rfl (by decide) (by decide) zin_6 (zl_f zo91 zw_242)) <|
  zcons (a := (55, zi_il 2 56)) (zs_il_n (M := 91) (pc := 55) (zd_eq zk91 (by decide +kernel : decode cX6_see 55 = .ok (.iload_n 2, 1)))) <|
  zcons (a := (56, zi_ast 0 (fun x => x) 57)) (zs_iast (M := 91) (pc := 56) (zd_eq zk91 (by decide +kernel : decode cX6_see 56 = .ok (.iastore, 1)))) <|
  zcons (a := (57, zi_al 0 58)) (zs_al_n (M := 91) (pc := 57) (zd_eq zk91 (by decide +kernel : decode cX6_see 57 = .ok (.aload_n 0, 1)))) <|
  zcons (a := (58, zi_dup 59)) (zs_dup (M := 91) (pc := 58) (zd_eq zk91 (by decide +kernel : decode cX6_see 58 = .ok (.dup, 1)))) <|
  zcons (a := (59, zi_gi 6 9 62)) (zs_gi (M := 91) (pc := 59) (n := 0) (ci := 6) (k := 9) (C := RX6) (T := TX6) (N := 14) (zd_eq zk91 (by decide +kernel : decode cX6_see 59 = .ok (.getfield 104, 3))) rfl (by decide) (by decide) zin_6 (zl_f zo91 zw_242)) <|
  zcons (a := (62, zi_k (.int 1) 63)) (zs_iconst (M := 91) (pc := 62) (zd_eq zk91 (by decide +kernel : decode cX6_see 62 = .ok (.iconst 1, 1))) (by decide)) <|
  zcons (a := (63, zi_bin (· + ·) 64)) (zs_iadd (M := 91) (pc := 63) (zd_eq zk91 (by decide +kernel : decode cX6_see 63 = .ok (.iadd, 1)))) <|
  zcons (a := (64, zi_pf 6 9 67)) (zs_pf (M := 91) (pc := 64) (ci := 6) (k := 9) (C := RX6) (T := TX6) (N := 14) (ty0 := tyX6) (zd_eq zk91 (by decide +kernel : decode cX6_see 64 = .ok (.putfield 104, 3))) rfl (by decide) (by decide) zin_6 (zl_f zo91 zw_242) tyX6_ok nmX6 rfl (tyX6_ok 9 (by decide))) <|
  zcons (a := (67, zi_al 0 68)) (zs_al_n (M := 91) (pc := 67) (zd_eq zk91 (by decide +kernel : decode cX6_see 67 = .ok (.aload_n 0, 1)))) <|
  zcons (a := (68, zi_gi 6 9 71)) (zs_gi (M := 91) (pc := 68) (n := 0) (ci := 6) (k := 9) (C := RX6) (T := TX6) (N := 14) (zd_eq zk91 (by decide +kernel : decode cX6_see 68 = .ok (.getfield 104, 3))) rfl (by decide) (by decide) zin_6 (zl_f zo91 zw_242)) <|
  zcons (a := (71, zi_ri)) (zs_ri (M := 91) (pc := 71) (zd_eq zk91 (by decide +kernel : decode cX6_see 71 = .ok (.ireturn, 1))) rfl) <| znil
theorem zS91 : ∀ pc, zm_Snd 91 pc (zm_lk2 zm_c91 pc) := zlk2 (zcons2 zS91_0 (zcons2 zS91_1 (znil2)))
theorem zS92_0 : ∀ q ∈ zm_c92_0, zm_Snd 92 q.1 q.2 :=
  zcons (a := (0, zi_il 1 1)) (zs_il_n (M := 92) (pc := 0) (zd_eq zk92 (by decide +kernel : decode cX6_forget 0 = .ok (.iload_n 1, 1)))) <|
  zcons (a := (1, zi_al 0 2)) (zs_al_n (M := 92) (pc := 1) (zd_eq zk92 (by decide +kernel : decode cX6_forget 1 = .ok (.aload_n 0, 1)))) <|
  zcons (a := (2, zi_gi 6 9 5)) (zs_gi (M := 92) (pc := 2) (n := 0) (ci := 6) (k := 9) (C := RX6) (T := TX6) (N := 14) (zd_eq zk92 (by decide +kernel : decode cX6_forget 2 = .ok (.getfield 104, 3))) rfl (by decide) (by decide) zin_6 (zl_f zo92 zw_242)) <|
  zcons (a := (5, zi_cs 105 2 8 1)) (zs_cs (M := 92) (pc := 5) (M' := 105) (k := 2) (kd := 1) (zd_eq zk92 (by decide +kernel : decode cX6_forget 5 = .ok (.invokestatic 67, 3))) zWd105 (zl_m zo92 zy105 zw_280) (zl_s zy105 zw_281)) <|
  zcons (a := (8, zi_b1 (fun x => ¬ x = 0) 13 11)) (zs_ifne (M := 92) (pc := 8) (zd_eq zk92 (by decide +kernel : decode cX6_forget 8 = .ok (.ifCond .ne 5, 3))) (by decide)) <|
  zcons (a := (11, zi_k (.int (-1)) 12)) (zs_iconst (M := 92) (pc := 11) (zd_eq zk92 (by decide +kernel : decode cX6_forget 11 = .ok (.iconst (-1), 1))) (by decide)) <|
  zcons (a := (12, zi_ri)) (zs_ri (M := 92) (pc := 12) (zd_eq zk92 (by decide +kernel : decode cX6_forget 12 = .ok (.ireturn, 1))) rfl) <|
  zcons (a := (13, zi_al 0 14)) (zs_al_n (M := 92) (pc := 13) (zd_eq zk92 (by decide +kernel : decode cX6_forget 13 = .ok (.aload_n 0, 1)))) <|
  zcons (a := (14, zi_gi 6 9 17)) (zs_gi (M := 92) (pc := 14) (n := 0) (ci := 6) (k := 9) (C := RX6) (T := TX6) (N := 14) (zd_eq zk92 (by decide +kernel : decode cX6_forget 14 = .ok (.getfield 104, 3))) rfl (by decide) (by decide) zin_6 (zl_f zo92 zw_242)) <|
  zcons (a := (17, zi_is 2 18)) (zs_is_n (M := 92) (pc := 17) (zd_eq zk92 (by decide +kernel : decode cX6_forget 17 = .ok (.istore_n 2, 1))) (by decide +kernel) (by decide +kernel)) <|
  zcons (a := (18, zi_al 0 19)) (zs_al_n (M := 92) (pc := 18) (zd_eq zk92 (by decide +kernel : decode cX6_forget 18 = .ok (.aload_n 0, 1)))) <|
  zcons (a := (19, zi_il 1 20)) (zs_il_n (M := 92) (pc := 19) (zd_eq zk92 (by decide +kernel : decode cX6_forget 19 = .ok (.iload_n 1, 1)))) <|
  zcons (a := (20, zi_pf 6 9 23)) (zs_pf (M := 92) (pc := 20) (ci := 6) (k := 9) (C := RX6) (T := TX6) (N := 14) (ty0 := tyX6) (zd_eq zk92 (by decide +kernel : decode cX6_forget 20 = .ok (.putfield 104, 3))) rfl (by decide) (by decide) zin_6 (zl_f zo92 zw_242) tyX6_ok nmX6 rfl (tyX6_ok 9 (by decide))) <|
  zcons (a := (23, zi_il 2 24)) (zs_il_n (M := 92) (pc := 23) (zd_eq zk92 (by decide +kernel : decode cX6_forget 23 = .ok (.iload_n 2, 1)))) <|
  zcons (a := (24, zi_ri)) (zs_ri (M := 92) (pc := 24) (zd_eq zk92 (by decide +kernel : decode cX6_forget 24 = .ok (.ireturn, 1))) rfl) <| znil
theorem zS92 : ∀ pc, zm_Snd 92 pc (zm_lk2 zm_c92 pc) := zlk2 (zcons2 zS92_0 (znil2))
theorem zS93_0 : ∀ q ∈ zm_c93_0, zm_Snd 93 q.1 q.2 :=
  zcons (a := (0, zi_al 0 1)) (zs_al_n (M := 93) (pc := 0) (zd_eq zk93 (by decide +kernel : decode cX6_kinds 0 = .ok (.aload_n 0, 1)))) <|
  zcons (a := (1, zi_il 1 2)) (zs_il_n (M := 93) (pc := 1) (zd_eq zk93 (by decide +kernel : decode cX6_kinds 1 = .ok (.iload_n 1, 1)))) <|
  zcons (a := (2, zi_cv 106 1 6 5 1)) (zs_cv (M := 93) (pc := 2) (M' := 106) (k := 1) (kd := 1) (ci := 6) (q := (RX6, TX6, 14)) (zd_eq zk93 (by decide +kernel : decode cX6_kinds 2 = .ok (.invokevirtual 133, 3))) zWd106 (zl_m zo93 zy106 zw_459) (zl_i zy106 zw_461) (zl_e zy106 zw_9) (by decide) rfl (by rw [zo106])) <|
  zcons (a := (5, zi_b1 (fun x => x = 0) 18 8)) (zs_ifeq (M := 93) (pc := 5) (zd_eq zk93 (by decide +kernel : decode cX6_kinds 5 = .ok (.ifCond .eq 13, 3))) (by decide)) <|
  zcons (a := (8, zi_al 0 9)) (zs_al_n (M := 93) (pc := 8) (zd_eq zk93 (by decide +kernel : decode cX6_kinds 8 = .ok (.aload_n 0, 1)))) <|
  zcons (a := (9, zi_il 1 10)) (zs_il_n (M := 93) (pc := 9) (zd_eq zk93 (by decide +kernel : decode cX6_kinds 9 = .ok (.iload_n 1, 1)))) <|
  zcons (a := (10, zi_k (.int 0) 11)) (zs_iconst (M := 93) (pc := 10) (zd_eq zk93 (by decide +kernel : decode cX6_kinds 10 = .ok (.iconst 0, 1))) (by decide)) <|
  zcons (a := (11, zi_k (.int 3) 12)) (zs_iconst (M := 93) (pc := 11) (zd_eq zk93 (by decide +kernel : decode cX6_kinds 11 = .ok (.iconst 3, 1))) (by decide)) <|
  zcons (a := (12, zi_cv 116 3 6 15 1)) (zs_cv (M := 93) (pc := 12) (M' := 116) (k := 3) (kd := 1) (ci := 6) (q := (RX6, TX6, 14)) (zd_eq zk93 (by decide +kernel : decode cX6_kinds 12 = .ok (.invokevirtual 237, 3))) zWd116 (zl_m zo93 zy116 zw_693) (zl_i zy116 zw_695) (zl_e zy116 zw_14) (by decide) rfl (by rw [zo116])) <|
  zcons (a := (15, zi_go 19)) (zs_goto (M := 93) (pc := 15) (zd_eq zk93 (by decide +kernel : decode cX6_kinds 15 = .ok (.goto 4, 3))) (by decide)) <|
  zcons (a := (18, zi_k (.int (-1)) 19)) (zs_iconst (M := 93) (pc := 18) (zd_eq zk93 (by decide +kernel : decode cX6_kinds 18 = .ok (.iconst (-1), 1))) (by decide)) <|
  zcons (a := (19, zi_ri)) (zs_ri (M := 93) (pc := 19) (zd_eq zk93 (by decide +kernel : decode cX6_kinds 19 = .ok (.ireturn, 1))) rfl) <| znil
theorem zS93 : ∀ pc, zm_Snd 93 pc (zm_lk2 zm_c93 pc) := zlk2 (zcons2 zS93_0 (znil2))
theorem zS94_0 : ∀ q ∈ zm_c94_0, zm_Snd 94 q.1 q.2 :=
  zcons (a := (0, zi_al 0 1)) (zs_al_n (M := 94) (pc := 0) (zd_eq zk94 (by decide +kernel : decode cX6_sizes 0 = .ok (.aload_n 0, 1)))) <|
  zcons (a := (1, zi_il 1 2)) (zs_il_n (M := 94) (pc := 1) (zd_eq zk94 (by decide +kernel : decode cX6_sizes 1 = .ok (.iload_n 1, 1)))) <|
  zcons (a := (2, zi_cv 106 1 6 5 1)) (zs_cv (M := 94) (pc := 2) (M' := 106) (k := 1) (kd := 1) (ci := 6) (q := (RX6, TX6, 14)) (zd_eq zk94 (by decide +kernel : decode cX6_sizes 2 = .ok (.invokevirtual 133, 3))) zWd106 (zl_m zo94 zy106 zw_459) (zl_i zy106 zw_461) (zl_e zy106 zw_9) (by decide) rfl (by rw [zo106])) <|
  zcons (a := (5, zi_b1 (fun x => x = 0) 19 8)) (zs_ifeq (M := 94) (pc := 5) (zd_eq zk94 (by decide +kernel : decode cX6_sizes 5 = .ok (.ifCond .eq 14, 3))) (by decide)) <|
  zcons (a := (8, zi_al 0 9)) (zs_al_n (M := 94) (pc := 8) (zd_eq zk94 (by decide +kernel : decode cX6_sizes 8 = .ok (.aload_n 0, 1)))) <|
  zcons (a := (9, zi_il 1 10)) (zs_il_n (M := 94) (pc := 9) (zd_eq zk94 (by decide +kernel : decode cX6_sizes 9 = .ok (.iload_n 1, 1)))) <|
  zcons (a := (10, zi_k (.int 1) 11)) (zs_iconst (M := 94) (pc := 10) (zd_eq zk94 (by decide +kernel : decode cX6_sizes 10 = .ok (.iconst 1, 1))) (by decide)) <|
  zcons (a := (11, zi_k (.int 30) 13)) (zs_bipush (M := 94) (pc := 11) (zd_eq zk94 (by decide +kernel : decode cX6_sizes 11 = .ok (.bipush 30, 2))) (by decide)) <|
  zcons (a := (13, zi_cv 116 3 6 16 1)) (zs_cv (M := 94) (pc := 13) (M' := 116) (k := 3) (kd := 1) (ci := 6) (q := (RX6, TX6, 14)) (zd_eq zk94 (by decide +kernel : decode cX6_sizes 13 = .ok (.invokevirtual 237, 3))) zWd116 (zl_m zo94 zy116 zw_693) (zl_i zy116 zw_695) (zl_e zy116 zw_14) (by decide) rfl (by rw [zo116])) <|
  zcons (a := (16, zi_go 20)) (zs_goto (M := 94) (pc := 16) (zd_eq zk94 (by decide +kernel : decode cX6_sizes 16 = .ok (.goto 4, 3))) (by decide)) <|
  zcons (a := (19, zi_k (.int (-1)) 20)) (zs_iconst (M := 94) (pc := 19) (zd_eq zk94 (by decide +kernel : decode cX6_sizes 19 = .ok (.iconst (-1), 1))) (by decide)) <|
  zcons (a := (20, zi_ri)) (zs_ri (M := 94) (pc := 20) (zd_eq zk94 (by decide +kernel : decode cX6_sizes 20 = .ok (.ireturn, 1))) rfl) <| znil
theorem zS94 : ∀ pc, zm_Snd 94 pc (zm_lk2 zm_c94 pc) := zlk2 (zcons2 zS94_0 (znil2))
theorem zS95_0 : ∀ q ∈ zm_c95_0, zm_Snd 95 q.1 q.2 :=
  zcons (a := (0, zi_al 0 1)) (zs_al_n (M := 95) (pc := 0) (zd_eq zk95 (by decide +kernel : decode cX6_leans 0 = .ok (.aload_n 0, 1)))) <|
  zcons (a := (1, zi_il 1 2)) (zs_il_n (M := 95) (pc := 1) (zd_eq zk95 (by decide +kernel : decode cX6_leans 1 = .ok (.iload_n 1, 1)))) <|
  zcons (a := (2, zi_cv 106 1 6 5 1)) (zs_cv (M := 95) (pc := 2) (M' := 106) (k := 1) (kd := 1) (ci := 6) (q := (RX6, TX6, 14)) (zd_eq zk95 (by decide +kernel : decode cX6_leans 2 = .ok (.invokevirtual 133, 3))) zWd106 (zl_m zo95 zy106 zw_459) (zl_i zy106 zw_461) (zl_e zy106 zw_9) (by decide) rfl (by rw [zo106])) <|
  zcons (a := (5, zi_b1 (fun x => x = 0) 16 8)) (zs_ifeq (M := 95) (pc := 5) (zd_eq zk95 (by decide +kernel : decode cX6_leans 5 = .ok (.ifCond .eq 11, 3))) (by decide)) <|
  zcons (a := (8, zi_il 2 9)) (zs_il_n (M := 95) (pc := 8) (zd_eq zk95 (by decide +kernel : decode cX6_leans 8 = .ok (.iload_n 2, 1)))) <|
  zcons (a := (9, zi_k (.int 1) 10)) (zs_iconst (M := 95) (pc := 9) (zd_eq zk95 (by decide +kernel : decode cX6_leans 9 = .ok (.iconst 1, 1))) (by decide)) <|
  zcons (a := (10, zi_cs 105 2 13 1)) (zs_cs (M := 95) (pc := 10) (M' := 105) (k := 2) (kd := 1) (zd_eq zk95 (by decide +kernel : decode cX6_leans 10 = .ok (.invokestatic 67, 3))) zWd105 (zl_m zo95 zy105 zw_280) (zl_s zy105 zw_281)) <|
  zcons (a := (13, zi_b1 (fun x => ¬ x = 0) 18 16)) (zs_ifne (M := 95) (pc := 13) (zd_eq zk95 (by decide +kernel : decode cX6_leans 13 = .ok (.ifCond .ne 5, 3))) (by decide)) <|
  zcons (a := (16, zi_k (.int (-1)) 17)) (zs_iconst (M := 95) (pc := 16) (zd_eq zk95 (by decide +kernel : decode cX6_leans 16 = .ok (.iconst (-1), 1))) (by decide)) <|
  zcons (a := (17, zi_ri)) (zs_ri (M := 95) (pc := 17) (zd_eq zk95 (by decide +kernel : decode cX6_leans 17 = .ok (.ireturn, 1))) rfl) <|
  zcons (a := (18, zi_k (.int 0) 19)) (zs_iconst (M := 95) (pc := 18) (zd_eq zk95 (by decide +kernel : decode cX6_leans 18 = .ok (.iconst 0, 1))) (by decide)) <|
  zcons (a := (19, zi_is 3 20)) (zs_is_n (M := 95) (pc := 19) (zd_eq zk95 (by decide +kernel : decode cX6_leans 19 = .ok (.istore_n 3, 1))) (by decide +kernel) (by decide +kernel)) <|
  zcons (a := (20, zi_k (.int (-4)) 22)) (zs_bipush (M := 95) (pc := 20) (zd_eq zk95 (by decide +kernel : decode cX6_leans 20 = .ok (.bipush (-4), 2))) (by decide)) <|
  zcons (a := (22, zi_is 4 24)) (zs_is_w (M := 95) (pc := 22) (zd_eq zk95 (by decide +kernel : decode cX6_leans 22 = .ok (.istore 4, 2))) (by decide +kernel) (by decide +kernel)) <|
  zcons (a := (24, zi_k (.int 0) 25)) (zs_iconst (M := 95) (pc := 24) (zd_eq zk95 (by decide +kernel : decode cX6_leans 24 = .ok (.iconst 0, 1))) (by decide)) <|
  zcons (a := (25, zi_is 5 27)) (zs_is_w (M := 95) (pc := 25) (zd_eq zk95 (by decide +kernel : decode cX6_leans 25 = .ok (.istore 5, 2))) (by decide +kernel) (by decide +kernel)) <|
  zcons (a := (27, zi_il 5 29)) (zs_il_w (M := 95) (pc := 27) (zd_eq zk95 (by decide +kernel : decode cX6_leans 27 = .ok (.iload 5, 2)))) <|
  zcons (a := (29, zi_k (.int 40) 31)) (zs_bipush (M := 95) (pc := 29) (zd_eq zk95 (by decide +kernel : decode cX6_leans 29 = .ok (.bipush 40, 2))) (by decide)) <|
  zcons (a := (31, zi_b2 (fun x y => y < x) 65 34)) (zs_icmpgt (M := 95) (pc := 31) (zd_eq zk95 (by decide +kernel : decode cX6_leans 31 = .ok (.if_icmp .gt 34, 3))) (by decide)) <|
  zcons (a := (34, zi_al 0 35)) (zs_al_n (M := 95) (pc := 34) (zd_eq zk95 (by decide +kernel : decode cX6_leans 34 = .ok (.aload_n 0, 1)))) <|
  zcons (a := (35, zi_il 1 36)) (zs_il_n (M := 95) (pc := 35) (zd_eq zk95 (by decide +kernel : decode cX6_leans 35 = .ok (.iload_n 1, 1)))) <|
  zcons (a := (36, zi_k (.int 2) 37)) (zs_iconst (M := 95) (pc := 36) (zd_eq zk95 (by decide +kernel : decode cX6_leans 36 = .ok (.iconst 2, 1))) (by decide)) <|
  zcons (a := (37, zi_il 5 39)) (zs_il_w (M := 95) (pc := 37) (zd_eq zk95 (by decide +kernel : decode cX6_leans 37 = .ok (.iload 5, 2)))) <|
  zcons (a := (39, zi_cv 117 3 6 42 1)) (zs_cv (M := 95) (pc := 39) (M' := 117) (k := 3) (kd := 1) (ci := 6) (q := (RX6, TX6, 14)) (zd_eq zk95 (by decide +kernel : decode cX6_leans 39 = .ok (.invokevirtual 240, 3))) zWd117 (zl_m zo95 zy117 zw_697) (zl_i zy117 zw_699) (zl_e zy117 zw_15) (by decide) rfl (by rw [zo117])) <| znil
theorem zS95_1 : ∀ q ∈ zm_c95_1, zm_Snd 95 q.1 q.2 :=
  zcons (a := (42, zi_b1 (fun x => x = 0) 59 45)) (zs_ifeq (M := 95) (pc := 42) (zd_eq zk95 (by decide +kernel : decode cX6_leans 42 = .ok (.ifCond .eq 17, 3))) (by decide)) <|
  zcons (a := (45, zi_inc 3 1 48)) (zs_inc (M := 95) (pc := 45) (zd_eq zk95 (by decide +kernel : decode cX6_leans 45 = .ok (.iinc 3 1, 3))) (by decide) (by decide +kernel) (by decide +kernel)) <|
  zcons (a := (48, zi_il 4 50)) (zs_il_w (M := 95) (pc := 48) (zd_eq zk95 (by decide +kernel : decode cX6_leans 48 = .ok (.iload 4, 2)))) <|
  zcons (a := (50, zi_k (.int (-4)) 52)) (zs_bipush (M := 95) (pc := 50) (zd_eq zk95 (by decide +kernel : decode cX6_leans 50 = .ok (.bipush (-4), 2))) (by decide)) <|
  zcons (a := (52, zi_b2 (fun x y => ¬ x = y) 59 55)) (zs_icmpne (M := 95) (pc := 52) (zd_eq zk95 (by decide +kernel : decode cX6_leans 52 = .ok (.if_icmp .ne 7, 3))) (by decide)) <|
  zcons (a := (55, zi_il 5 57)) (zs_il_w (M := 95) (pc := 55) (zd_eq zk95 (by decide +kernel : decode cX6_leans 55 = .ok (.iload 5, 2)))) <|
  zcons (a := (57, zi_is 4 59)) (zs_is_w (M := 95) (pc := 57) (zd_eq zk95 (by decide +kernel : decode cX6_leans 57 = .ok (.istore 4, 2))) (by decide +kernel) (by decide +kernel)) <|
  zcons (a := (59, zi_inc 5 1 62)) (zs_inc (M := 95) (pc := 59) (zd_eq zk95 (by decide +kernel : decode cX6_leans 59 = .ok (.iinc 5 1, 3))) (by decide) (by decide +kernel) (by decide +kernel)) <|
  zcons (a := (62, zi_go 27)) (zs_goto (M := 95) (pc := 62) (zd_eq zk95 (by decide +kernel : decode cX6_leans 62 = .ok (.goto (-35), 3))) (by decide)) <|
  zcons (a := (65, zi_il 2 66)) (zs_il_n (M := 95) (pc := 65) (zd_eq zk95 (by decide +kernel : decode cX6_leans 65 = .ok (.iload_n 2, 1)))) <|
  zcons (a := (66, zi_b1 (fun x => ¬ x = 0) 73 69)) (zs_ifne (M := 95) (pc := 66) (zd_eq zk95 (by decide +kernel : decode cX6_leans 66 = .ok (.ifCond .ne 7, 3))) (by decide)) <|
  zcons (a := (69, zi_il 3 70)) (zs_il_n (M := 95) (pc := 69) (zd_eq zk95 (by decide +kernel : decode cX6_leans 69 = .ok (.iload_n 3, 1)))) <|
  zcons (a := (70, zi_go 75)) (zs_goto (M := 95) (pc := 70) (zd_eq zk95 (by decide +kernel : decode cX6_leans 70 = .ok (.goto 5, 3))) (by decide)) <|
  zcons (a := (73, zi_il 4 75)) (zs_il_w (M := 95) (pc := 73) (zd_eq zk95 (by decide +kernel : decode cX6_leans 73 = .ok (.iload 4, 2)))) <|
  zcons (a := (75, zi_ri)) (zs_ri (M := 95) (pc := 75) (zd_eq zk95 (by decide +kernel : decode cX6_leans 75 = .ok (.ireturn, 1))) rfl) <| znil
theorem zS95 : ∀ pc, zm_Snd 95 pc (zm_lk2 zm_c95 pc) := zlk2 (zcons2 zS95_0 (zcons2 zS95_1 (znil2)))
theorem zS96_0 : ∀ q ∈ zm_c96_0, zm_Snd 96 q.1 q.2 :=
  zcons (a := (0, zi_al 0 1)) (zs_al_n (M := 96) (pc := 0) (zd_eq zk96 (by decide +kernel : decode cX6_ask 0 = .ok (.aload_n 0, 1)))) <|
  zcons (a := (1, zi_il 1 2)) (zs_il_n (M := 96) (pc := 1) (zd_eq zk96 (by decide +kernel : decode cX6_ask 1 = .ok (.iload_n 1, 1)))) <|
  zcons (a := (2, zi_cv 106 1 6 5 1)) (zs_cv (M := 96) (pc := 2) (M' := 106) (k := 1) (kd := 1) (ci := 6) (q := (RX6, TX6, 14)) (zd_eq zk96 (by decide +kernel : decode cX6_ask 2 = .ok (.invokevirtual 133, 3))) zWd106 (zl_m zo96 zy106 zw_459) (zl_i zy106 zw_461) (zl_e zy106 zw_9) (by decide) rfl (by rw [zo106])) <|
  zcons (a := (5, zi_b1 (fun x => x = 0) 16 8)) (zs_ifeq (M := 96) (pc := 5) (zd_eq zk96 (by decide +kernel : decode cX6_ask 5 = .ok (.ifCond .eq 11, 3))) (by decide)) <|
  zcons (a := (8, zi_il 2 9)) (zs_il_n (M := 96) (pc := 8) (zd_eq zk96 (by decide +kernel : decode cX6_ask 8 = .ok (.iload_n 2, 1)))) <|
  zcons (a := (9, zi_k (.int 1) 10)) (zs_iconst (M := 96) (pc := 9) (zd_eq zk96 (by decide +kernel : decode cX6_ask 9 = .ok (.iconst 1, 1))) (by decide)) <|
  zcons (a := (10, zi_cs 105 2 13 1)) (zs_cs (M := 96) (pc := 10) (M' := 105) (k := 2) (kd := 1) (zd_eq zk96 (by decide +kernel : decode cX6_ask 10 = .ok (.invokestatic 67, 3))) zWd105 (zl_m zo96 zy105 zw_280) (zl_s zy105 zw_281)) <|
  zcons (a := (13, zi_b1 (fun x => ¬ x = 0) 18 16)) (zs_ifne (M := 96) (pc := 13) (zd_eq zk96 (by decide +kernel : decode cX6_ask 13 = .ok (.ifCond .ne 5, 3))) (by decide)) <|
  zcons (a := (16, zi_k (.int (-1)) 17)) (zs_iconst (M := 96) (pc := 16) (zd_eq zk96 (by decide +kernel : decode cX6_ask 16 = .ok (.iconst (-1), 1))) (by decide)) <|
  zcons (a := (17, zi_ri)) (zs_ri (M := 96) (pc := 17) (zd_eq zk96 (by decide +kernel : decode cX6_ask 17 = .ok (.ireturn, 1))) rfl) <|
  zcons (a := (18, zi_al 0 19)) (zs_al_n (M := 96) (pc := 18) (zd_eq zk96 (by decide +kernel : decode cX6_ask 18 = .ok (.aload_n 0, 1)))) <|
  zcons (a := (19, zi_il 1 20)) (zs_il_n (M := 96) (pc := 19) (zd_eq zk96 (by decide +kernel : decode cX6_ask 19 = .ok (.iload_n 1, 1)))) <|
  zcons (a := (20, zi_k (.int 0) 21)) (zs_iconst (M := 96) (pc := 20) (zd_eq zk96 (by decide +kernel : decode cX6_ask 20 = .ok (.iconst 0, 1))) (by decide)) <|
  zcons (a := (21, zi_k (.int 3) 22)) (zs_iconst (M := 96) (pc := 21) (zd_eq zk96 (by decide +kernel : decode cX6_ask 21 = .ok (.iconst 3, 1))) (by decide)) <|
  zcons (a := (22, zi_cv 116 3 6 25 1)) (zs_cv (M := 96) (pc := 22) (M' := 116) (k := 3) (kd := 1) (ci := 6) (q := (RX6, TX6, 14)) (zd_eq zk96 (by decide +kernel : decode cX6_ask 22 = .ok (.invokevirtual 237, 3))) zWd116 (zl_m zo96 zy116 zw_693) (zl_i zy116 zw_695) (zl_e zy116 zw_14) (by decide) rfl (by rw [zo116])) <|
  zcons (a := (25, zi_is 3 26)) (zs_is_n (M := 96) (pc := 25) (zd_eq zk96 (by decide +kernel : decode cX6_ask 25 = .ok (.istore_n 3, 1))) (by decide +kernel) (by decide +kernel)) <|
  zcons (a := (26, zi_al 0 27)) (zs_al_n (M := 96) (pc := 26) (zd_eq zk96 (by decide +kernel : decode cX6_ask 26 = .ok (.aload_n 0, 1)))) <|
  zcons (a := (27, zi_il 1 28)) (zs_il_n (M := 96) (pc := 27) (zd_eq zk96 (by decide +kernel : decode cX6_ask 27 = .ok (.iload_n 1, 1)))) <|
  zcons (a := (28, zi_cv 120 1 6 31 0)) (zs_cv (M := 96) (pc := 28) (M' := 120) (k := 1) (kd := 0) (ci := 6) (q := (RX6, TX6, 14)) (zd_eq zk96 (by decide +kernel : decode cX6_ask 28 = .ok (.invokevirtual 244, 3))) zWd120 (zl_m zo96 zy120 zw_722) (zl_i zy120 zw_724) (zl_e zy120 zw_18) (by decide) rfl (by rw [zo120])) <|
  zcons (a := (31, zi_il 3 32)) (zs_il_n (M := 96) (pc := 31) (zd_eq zk96 (by decide +kernel : decode cX6_ask 31 = .ok (.iload_n 3, 1)))) <|
  zcons (a := (32, zi_cs 0 1 35 1)) (zs_cs (M := 96) (pc := 32) (M' := 0) (k := 1) (kd := 1) (zd_eq zk96 (by decide +kernel : decode cX6_ask 32 = .ok (.invokestatic 247, 3))) zWd0 (zl_m zo96 zy0 zw_731) (zl_s zy0 zw_562)) <|
  zcons (a := (35, zi_is 4 37)) (zs_is_w (M := 96) (pc := 35) (zd_eq zk96 (by decide +kernel : decode cX6_ask 35 = .ok (.istore 4, 2))) (by decide +kernel) (by decide +kernel)) <|
  zcons (a := (37, zi_k (.int (-4)) 39)) (zs_bipush (M := 96) (pc := 37) (zd_eq zk96 (by decide +kernel : decode cX6_ask 37 = .ok (.bipush (-4), 2))) (by decide)) <|
  zcons (a := (39, zi_is 5 41)) (zs_is_w (M := 96) (pc := 39) (zd_eq zk96 (by decide +kernel : decode cX6_ask 39 = .ok (.istore 5, 2))) (by decide +kernel) (by decide +kernel)) <| znil
theorem zS96_1 : ∀ q ∈ zm_c96_1, zm_Snd 96 q.1 q.2 :=
  zcons (a := (41, zi_k (.int 0) 42)) (zs_iconst (M := 96) (pc := 41) (zd_eq zk96 (by decide +kernel : decode cX6_ask 41 = .ok (.iconst 0, 1))) (by decide)) <|
  zcons (a := (42, zi_is 6 44)) (zs_is_w (M := 96) (pc := 42) (zd_eq zk96 (by decide +kernel : decode cX6_ask 42 = .ok (.istore 6, 2))) (by decide +kernel) (by decide +kernel)) <|
  zcons (a := (44, zi_il 6 46)) (zs_il_w (M := 96) (pc := 44) (zd_eq zk96 (by decide +kernel : decode cX6_ask 44 = .ok (.iload 6, 2)))) <|
  zcons (a := (46, zi_k (.int 30) 48)) (zs_bipush (M := 96) (pc := 46) (zd_eq zk96 (by decide +kernel : decode cX6_ask 46 = .ok (.bipush 30, 2))) (by decide)) <|
  zcons (a := (48, zi_b2 (fun x y => y < x) 81 51)) (zs_icmpgt (M := 96) (pc := 48) (zd_eq zk96 (by decide +kernel : decode cX6_ask 48 = .ok (.if_icmp .gt 33, 3))) (by decide)) <|
  zcons (a := (51, zi_al 0 52)) (zs_al_n (M := 96) (pc := 51) (zd_eq zk96 (by decide +kernel : decode cX6_ask 51 = .ok (.aload_n 0, 1)))) <|
  zcons (a := (52, zi_il 3 53)) (zs_il_n (M := 96) (pc := 52) (zd_eq zk96 (by decide +kernel : decode cX6_ask 52 = .ok (.iload_n 3, 1)))) <|
  zcons (a := (53, zi_il 6 55)) (zs_il_w (M := 96) (pc := 53) (zd_eq zk96 (by decide +kernel : decode cX6_ask 53 = .ok (.iload 6, 2)))) <|
  zcons (a := (55, zi_cv 121 2 6 58 1)) (zs_cv (M := 96) (pc := 55) (M' := 121) (k := 2) (kd := 1) (ci := 6) (q := (RX6, TX6, 14)) (zd_eq zk96 (by decide +kernel : decode cX6_ask 55 = .ok (.invokevirtual 252, 3))) zWd121 (zl_m zo96 zy121 zw_732) (zl_i zy121 zw_734) (zl_e zy121 zw_19) (by decide) rfl (by rw [zo121])) <|
  zcons (a := (58, zi_is 7 60)) (zs_is_w (M := 96) (pc := 58) (zd_eq zk96 (by decide +kernel : decode cX6_ask 58 = .ok (.istore 7, 2))) (by decide +kernel) (by decide +kernel)) <|
  zcons (a := (60, zi_il 7 62)) (zs_il_w (M := 96) (pc := 60) (zd_eq zk96 (by decide +kernel : decode cX6_ask 60 = .ok (.iload 7, 2)))) <|
  zcons (a := (62, zi_il 4 64)) (zs_il_w (M := 96) (pc := 62) (zd_eq zk96 (by decide +kernel : decode cX6_ask 62 = .ok (.iload 4, 2)))) <|
  zcons (a := (64, zi_b2 (fun x y => y ≤ x) 75 67)) (zs_icmpge (M := 96) (pc := 64) (zd_eq zk96 (by decide +kernel : decode cX6_ask 64 = .ok (.if_icmp .ge 11, 3))) (by decide)) <|
  zcons (a := (67, zi_il 7 69)) (zs_il_w (M := 96) (pc := 67) (zd_eq zk96 (by decide +kernel : decode cX6_ask 67 = .ok (.iload 7, 2)))) <|
  zcons (a := (69, zi_is 4 71)) (zs_is_w (M := 96) (pc := 69) (zd_eq zk96 (by decide +kernel : decode cX6_ask 69 = .ok (.istore 4, 2))) (by decide +kernel) (by decide +kernel)) <|
  zcons (a := (71, zi_il 6 73)) (zs_il_w (M := 96) (pc := 71) (zd_eq zk96 (by decide +kernel : decode cX6_ask 71 = .ok (.iload 6, 2)))) <|
  zcons (a := (73, zi_is 5 75)) (zs_is_w (M := 96) (pc := 73) (zd_eq zk96 (by decide +kernel : decode cX6_ask 73 = .ok (.istore 5, 2))) (by decide +kernel) (by decide +kernel)) <|
  zcons (a := (75, zi_inc 6 1 78)) (zs_inc (M := 96) (pc := 75) (zd_eq zk96 (by decide +kernel : decode cX6_ask 75 = .ok (.iinc 6 1, 3))) (by decide) (by decide +kernel) (by decide +kernel)) <|
  zcons (a := (78, zi_go 44)) (zs_goto (M := 96) (pc := 78) (zd_eq zk96 (by decide +kernel : decode cX6_ask 78 = .ok (.goto (-34), 3))) (by decide)) <|
  zcons (a := (81, zi_il 5 83)) (zs_il_w (M := 96) (pc := 81) (zd_eq zk96 (by decide +kernel : decode cX6_ask 81 = .ok (.iload 5, 2)))) <|
  zcons (a := (83, zi_il 4 85)) (zs_il_w (M := 96) (pc := 83) (zd_eq zk96 (by decide +kernel : decode cX6_ask 83 = .ok (.iload 4, 2)))) <|
  zcons (a := (85, zi_il 2 86)) (zs_il_n (M := 96) (pc := 85) (zd_eq zk96 (by decide +kernel : decode cX6_ask 85 = .ok (.iload_n 2, 1)))) <|
  zcons (a := (86, zi_cs 108 3 89 1)) (zs_cs (M := 96) (pc := 86) (M' := 108) (k := 3) (kd := 1) (zd_eq zk96 (by decide +kernel : decode cX6_ask 86 = .ok (.invokestatic 214, 3))) zWd108 (zl_m zo96 zy108 zw_624) (zl_s zy108 zw_625)) <|
  zcons (a := (89, zi_ri)) (zs_ri (M := 96) (pc := 89) (zd_eq zk96 (by decide +kernel : decode cX6_ask 89 = .ok (.ireturn, 1))) rfl) <| znil
theorem zS96 : ∀ pc, zm_Snd 96 pc (zm_lk2 zm_c96 pc) := zlk2 (zcons2 zS96_0 (zcons2 zS96_1 (znil2)))
theorem zS97_0 : ∀ q ∈ zm_c97_0, zm_Snd 97 q.1 q.2 :=
  zcons (a := (0, zi_il 2 1)) (zs_il_n (M := 97) (pc := 0) (zd_eq zk97 (by decide +kernel : decode cX6_drift 0 = .ok (.iload_n 2, 1)))) <|
  zcons (a := (1, zi_k (.int 1) 2)) (zs_iconst (M := 97) (pc := 1) (zd_eq zk97 (by decide +kernel : decode cX6_drift 1 = .ok (.iconst 1, 1))) (by decide)) <|
  zcons (a := (2, zi_b2 (fun x y => x < y) 19 5)) (zs_icmplt (M := 97) (pc := 2) (zd_eq zk97 (by decide +kernel : decode cX6_drift 2 = .ok (.if_icmp .lt 17, 3))) (by decide)) <|
  zcons (a := (5, zi_il 2 6)) (zs_il_n (M := 97) (pc := 5) (zd_eq zk97 (by decide +kernel : decode cX6_drift 5 = .ok (.iload_n 2, 1)))) <|
  zcons (a := (6, zi_k (.int 60) 8)) (zs_bipush (M := 97) (pc := 6) (zd_eq zk97 (by decide +kernel : decode cX6_drift 6 = .ok (.bipush 60, 2))) (by decide)) <|
  zcons (a := (8, zi_b2 (fun x y => y < x) 19 11)) (zs_icmpgt (M := 97) (pc := 8) (zd_eq zk97 (by decide +kernel : decode cX6_drift 8 = .ok (.if_icmp .gt 11, 3))) (by decide)) <|
  zcons (a := (11, zi_il 3 12)) (zs_il_n (M := 97) (pc := 11) (zd_eq zk97 (by decide +kernel : decode cX6_drift 11 = .ok (.iload_n 3, 1)))) <|
  zcons (a := (12, zi_k (.int 1) 13)) (zs_iconst (M := 97) (pc := 12) (zd_eq zk97 (by decide +kernel : decode cX6_drift 12 = .ok (.iconst 1, 1))) (by decide)) <|
  zcons (a := (13, zi_cs 105 2 16 1)) (zs_cs (M := 97) (pc := 13) (M' := 105) (k := 2) (kd := 1) (zd_eq zk97 (by decide +kernel : decode cX6_drift 13 = .ok (.invokestatic 67, 3))) zWd105 (zl_m zo97 zy105 zw_280) (zl_s zy105 zw_281)) <|
  zcons (a := (16, zi_b1 (fun x => ¬ x = 0) 21 19)) (zs_ifne (M := 97) (pc := 16) (zd_eq zk97 (by decide +kernel : decode cX6_drift 16 = .ok (.ifCond .ne 5, 3))) (by decide)) <|
  zcons (a := (19, zi_k (.int (-1)) 20)) (zs_iconst (M := 97) (pc := 19) (zd_eq zk97 (by decide +kernel : decode cX6_drift 19 = .ok (.iconst (-1), 1))) (by decide)) <|
  zcons (a := (20, zi_ri)) (zs_ri (M := 97) (pc := 20) (zd_eq zk97 (by decide +kernel : decode cX6_drift 20 = .ok (.ireturn, 1))) rfl) <|
  zcons (a := (21, zi_al 0 22)) (zs_al_n (M := 97) (pc := 21) (zd_eq zk97 (by decide +kernel : decode cX6_drift 21 = .ok (.aload_n 0, 1)))) <|
  zcons (a := (22, zi_gr 6 0 25)) (zs_gr (M := 97) (pc := 22) (n := 0) (ci := 6) (k := 0) (C := RX6) (T := TX6) (N := 14) (zd_eq zk97 (by decide +kernel : decode cX6_drift 22 = .ok (.getfield 10, 3))) rfl (by decide) (by decide) zin_6 (zl_f zo97 zw_233)) <|
  zcons (a := (25, zi_gr 1 0 28)) (zs_gr (M := 97) (pc := 25) (n := 0) (ci := 1) (k := 0) (C := RX1) (T := TX1) (N := 4) (zd_eq zk97 (by decide +kernel : decode cX6_drift 25 = .ok (.getfield 110, 3))) rfl (by decide) (by decide) zin_1 (zl_f zo97 zw_123)) <|
  zcons (a := (28, zi_gi 2 1 31)) (zs_gi (M := 97) (pc := 28) (n := 0) (ci := 2) (k := 1) (C := RX2) (T := TX2) (N := 2) (zd_eq zk97 (by decide +kernel : decode cX6_drift 28 = .ok (.getfield 114, 3))) rfl (by decide) (by decide) zin_2 (zl_f zo97 zw_112)) <|
  zcons (a := (31, zi_b1 (fun x => ¬ x = 0) 37 34)) (zs_ifne (M := 97) (pc := 31) (zd_eq zk97 (by decide +kernel : decode cX6_drift 31 = .ok (.ifCond .ne 6, 3))) (by decide)) <|
  zcons (a := (34, zi_k (.int (-2)) 36)) (zs_bipush (M := 97) (pc := 34) (zd_eq zk97 (by decide +kernel : decode cX6_drift 34 = .ok (.bipush (-2), 2))) (by decide)) <|
  zcons (a := (36, zi_ri)) (zs_ri (M := 97) (pc := 36) (zd_eq zk97 (by decide +kernel : decode cX6_drift 36 = .ok (.ireturn, 1))) rfl) <|
  zcons (a := (37, zi_al 0 38)) (zs_al_n (M := 97) (pc := 37) (zd_eq zk97 (by decide +kernel : decode cX6_drift 37 = .ok (.aload_n 0, 1)))) <|
  zcons (a := (38, zi_gr 6 1 41)) (zs_gr (M := 97) (pc := 38) (n := 0) (ci := 6) (k := 1) (C := RX6) (T := TX6) (N := 14) (zd_eq zk97 (by decide +kernel : decode cX6_drift 38 = .ok (.getfield 16, 3))) rfl (by decide) (by decide) zin_6 (zl_f zo97 zw_234)) <|
  zcons (a := (41, zi_al 0 42)) (zs_al_n (M := 97) (pc := 41) (zd_eq zk97 (by decide +kernel : decode cX6_drift 41 = .ok (.aload_n 0, 1)))) <|
  zcons (a := (42, zi_gr 6 0 45)) (zs_gr (M := 97) (pc := 42) (n := 0) (ci := 6) (k := 0) (C := RX6) (T := TX6) (N := 14) (zd_eq zk97 (by decide +kernel : decode cX6_drift 42 = .ok (.getfield 10, 3))) rfl (by decide) (by decide) zin_6 (zl_f zo97 zw_233)) <|
  zcons (a := (45, zi_cv 30 1 1 48 0)) (zs_cv (M := 97) (pc := 45) (M' := 30) (k := 1) (kd := 0) (ci := 1) (q := (RX1, TX1, 4)) (zd_eq zk97 (by decide +kernel : decode cX6_drift 45 = .ok (.invokevirtual 100, 3))) zWd30 (zl_m zo97 zy30 zw_411) (zl_i zy30 zw_412) (zl_e zy30 zw_413) (by decide) rfl (by rw [zo30])) <| znil
theorem zS97_1 : ∀ q ∈ zm_c97_1, zm_Snd 97 q.1 q.2 :=
  zcons (a := (48, zi_il 1 49)) (zs_il_n (M := 97) (pc := 48) (zd_eq zk97 (by decide +kernel : decode cX6_drift 48 = .ok (.iload_n 1, 1)))) <|
  zcons (a := (49, zi_is 4 51)) (zs_is_w (M := 97) (pc := 49) (zd_eq zk97 (by decide +kernel : decode cX6_drift 49 = .ok (.istore 4, 2))) (by decide +kernel) (by decide +kernel)) <|
  zcons (a := (51, zi_k (.int 0) 52)) (zs_iconst (M := 97) (pc := 51) (zd_eq zk97 (by decide +kernel : decode cX6_drift 51 = .ok (.iconst 0, 1))) (by decide)) <|
  zcons (a := (52, zi_is 5 54)) (zs_is_w (M := 97) (pc := 52) (zd_eq zk97 (by decide +kernel : decode cX6_drift 52 = .ok (.istore 5, 2))) (by decide +kernel) (by decide +kernel)) <|
  zcons (a := (54, zi_il 5 56)) (zs_il_w (M := 97) (pc := 54) (zd_eq zk97 (by decide +kernel : decode cX6_drift 54 = .ok (.iload 5, 2)))) <|
  zcons (a := (56, zi_il 2 57)) (zs_il_n (M := 97) (pc := 56) (zd_eq zk97 (by decide +kernel : decode cX6_drift 56 = .ok (.iload_n 2, 1)))) <|
  zcons (a := (57, zi_b2 (fun x y => y ≤ x) 111 60)) (zs_icmpge (M := 97) (pc := 57) (zd_eq zk97 (by decide +kernel : decode cX6_drift 57 = .ok (.if_icmp .ge 54, 3))) (by decide)) <|
  zcons (a := (60, zi_il 4 62)) (zs_il_w (M := 97) (pc := 60) (zd_eq zk97 (by decide +kernel : decode cX6_drift 60 = .ok (.iload 4, 2)))) <|
  zcons (a := (62, zi_k (.int 1103515245) 64)) (zs_ldc (M := 97) (pc := 62) (zd_eq zk97 (by decide +kernel : decode cX6_drift 62 = .ok (.ldc 255, 2))) (zl_k zo97 zw_740)) <|
  zcons (a := (64, zi_bin (· * ·) 65)) (zs_imul (M := 97) (pc := 64) (zd_eq zk97 (by decide +kernel : decode cX6_drift 64 = .ok (.imul, 1)))) <|
  zcons (a := (65, zi_k (.int 12345) 68)) (zs_sipush (M := 97) (pc := 65) (zd_eq zk97 (by decide +kernel : decode cX6_drift 65 = .ok (.sipush 12345, 3))) (by decide)) <|
  zcons (a := (68, zi_bin (· + ·) 69)) (zs_iadd (M := 97) (pc := 68) (zd_eq zk97 (by decide +kernel : decode cX6_drift 68 = .ok (.iadd, 1)))) <|
  zcons (a := (69, zi_is 4 71)) (zs_is_w (M := 97) (pc := 69) (zd_eq zk97 (by decide +kernel : decode cX6_drift 69 = .ok (.istore 4, 2))) (by decide +kernel) (by decide +kernel)) <|
  zcons (a := (71, zi_il 4 73)) (zs_il_w (M := 97) (pc := 71) (zd_eq zk97 (by decide +kernel : decode cX6_drift 71 = .ok (.iload 4, 2)))) <|
  zcons (a := (73, zi_k (.int 16) 75)) (zs_bipush (M := 97) (pc := 73) (zd_eq zk97 (by decide +kernel : decode cX6_drift 73 = .ok (.bipush 16, 2))) (by decide)) <|
  zcons (a := (75, zi_bin (fun x y => (x.toUInt32 >>> (y.toUInt32 &&& Int32.toUInt32 31)).toInt32) 76)) (zs_iushr (M := 97) (pc := 75) (zd_eq zk97 (by decide +kernel : decode cX6_drift 75 = .ok (.iushr, 1)))) <|
  zcons (a := (76, zi_k (.int 32767) 79)) (zs_sipush (M := 97) (pc := 76) (zd_eq zk97 (by decide +kernel : decode cX6_drift 76 = .ok (.sipush 32767, 3))) (by decide)) <|
  zcons (a := (79, zi_bin (· &&& ·) 80)) (zs_iand (M := 97) (pc := 79) (zd_eq zk97 (by decide +kernel : decode cX6_drift 79 = .ok (.iand, 1)))) <|
  zcons (a := (80, zi_is 6 82)) (zs_is_w (M := 97) (pc := 80) (zd_eq zk97 (by decide +kernel : decode cX6_drift 80 = .ok (.istore 6, 2))) (by decide +kernel) (by decide +kernel)) <|
  zcons (a := (82, zi_al 0 83)) (zs_al_n (M := 97) (pc := 82) (zd_eq zk97 (by decide +kernel : decode cX6_drift 82 = .ok (.aload_n 0, 1)))) <|
  zcons (a := (83, zi_gr 6 1 86)) (zs_gr (M := 97) (pc := 83) (n := 0) (ci := 6) (k := 1) (C := RX6) (T := TX6) (N := 14) (zd_eq zk97 (by decide +kernel : decode cX6_drift 83 = .ok (.getfield 16, 3))) rfl (by decide) (by decide) zin_6 (zl_f zo97 zw_234)) <|
  zcons (a := (86, zi_gr 1 0 89)) (zs_gr (M := 97) (pc := 86) (n := 0) (ci := 1) (k := 0) (C := RX1) (T := TX1) (N := 4) (zd_eq zk97 (by decide +kernel : decode cX6_drift 86 = .ok (.getfield 110, 3))) rfl (by decide) (by decide) zin_1 (zl_f zo97 zw_123)) <|
  zcons (a := (89, zi_il 6 91)) (zs_il_w (M := 97) (pc := 89) (zd_eq zk97 (by decide +kernel : decode cX6_drift 89 = .ok (.iload 6, 2)))) <|
  zcons (a := (91, zi_k (.int 10) 93)) (zs_bipush (M := 97) (pc := 91) (zd_eq zk97 (by decide +kernel : decode cX6_drift 91 = .ok (.bipush 10, 2))) (by decide)) <| znil
theorem zS97_2 : ∀ q ∈ zm_c97_2, zm_Snd 97 q.1 q.2 :=
  zcons (a := (93, zi_rem 94)) (zs_irem (M := 97) (pc := 93) (zd_eq zk97 (by decide +kernel : decode cX6_drift 93 = .ok (.irem, 1)))) <|
  zcons (a := (94, zi_il 6 96)) (zs_il_w (M := 97) (pc := 94) (zd_eq zk97 (by decide +kernel : decode cX6_drift 94 = .ok (.iload 6, 2)))) <|
  zcons (a := (96, zi_k (.int 16) 98)) (zs_bipush (M := 97) (pc := 96) (zd_eq zk97 (by decide +kernel : decode cX6_drift 96 = .ok (.bipush 16, 2))) (by decide)) <|
  zcons (a := (98, zi_div 99)) (zs_idiv (M := 97) (pc := 98) (zd_eq zk97 (by decide +kernel : decode cX6_drift 98 = .ok (.idiv, 1)))) <|
  zcons (a := (99, zi_k (.int 9) 101)) (zs_bipush (M := 97) (pc := 99) (zd_eq zk97 (by decide +kernel : decode cX6_drift 99 = .ok (.bipush 9, 2))) (by decide)) <|
  zcons (a := (101, zi_rem 102)) (zs_irem (M := 97) (pc := 101) (zd_eq zk97 (by decide +kernel : decode cX6_drift 101 = .ok (.irem, 1)))) <|
  zcons (a := (102, zi_cv 27 2 2 105 0)) (zs_cv (M := 97) (pc := 102) (M' := 27) (k := 2) (kd := 0) (ci := 2) (q := (RX2, TX2, 2)) (zd_eq zk97 (by decide +kernel : decode cX6_drift 102 = .ok (.invokevirtual 256, 3))) zWd27 (zl_m zo97 zy27 zw_676) (zl_i zy27 zw_537) (zl_e zy27 zw_538) (by decide) rfl (by rw [zo27])) <|
  zcons (a := (105, zi_inc 5 1 108)) (zs_inc (M := 97) (pc := 105) (zd_eq zk97 (by decide +kernel : decode cX6_drift 105 = .ok (.iinc 5 1, 3))) (by decide) (by decide +kernel) (by decide +kernel)) <|
  zcons (a := (108, zi_go 54)) (zs_goto (M := 97) (pc := 108) (zd_eq zk97 (by decide +kernel : decode cX6_drift 108 = .ok (.goto (-54), 3))) (by decide)) <|
  zcons (a := (111, zi_il 3 112)) (zs_il_n (M := 97) (pc := 111) (zd_eq zk97 (by decide +kernel : decode cX6_drift 111 = .ok (.iload_n 3, 1)))) <|
  zcons (a := (112, zi_b1 (fun x => ¬ x = 0) 128 115)) (zs_ifne (M := 97) (pc := 112) (zd_eq zk97 (by decide +kernel : decode cX6_drift 112 = .ok (.ifCond .ne 16, 3))) (by decide)) <|
  zcons (a := (115, zi_al 0 116)) (zs_al_n (M := 97) (pc := 115) (zd_eq zk97 (by decide +kernel : decode cX6_drift 115 = .ok (.aload_n 0, 1)))) <|
  zcons (a := (116, zi_gr 6 1 119)) (zs_gr (M := 97) (pc := 116) (n := 0) (ci := 6) (k := 1) (C := RX6) (T := TX6) (N := 14) (zd_eq zk97 (by decide +kernel : decode cX6_drift 116 = .ok (.getfield 16, 3))) rfl (by decide) (by decide) zin_6 (zl_f zo97 zw_234)) <|
  zcons (a := (119, zi_gr 1 0 122)) (zs_gr (M := 97) (pc := 119) (n := 0) (ci := 1) (k := 0) (C := RX1) (T := TX1) (N := 4) (zd_eq zk97 (by decide +kernel : decode cX6_drift 119 = .ok (.getfield 110, 3))) rfl (by decide) (by decide) zin_1 (zl_f zo97 zw_123)) <|
  zcons (a := (122, zi_cv 24 0 2 125 1)) (zs_cv (M := 97) (pc := 122) (M' := 24) (k := 0) (kd := 1) (ci := 2) (q := (RX2, TX2, 2)) (zd_eq zk97 (by decide +kernel : decode cX6_drift 122 = .ok (.invokevirtual 127, 3))) zWd24 (zl_m zo97 zy24 zw_447) (zl_i zy24 zw_448) (zl_e zy24 zw_449) (by decide) rfl (by rw [zo24])) <|
  zcons (a := (125, zi_go 138)) (zs_goto (M := 97) (pc := 125) (zd_eq zk97 (by decide +kernel : decode cX6_drift 125 = .ok (.goto 13, 3))) (by decide)) <|
  zcons (a := (128, zi_al 0 129)) (zs_al_n (M := 97) (pc := 128) (zd_eq zk97 (by decide +kernel : decode cX6_drift 128 = .ok (.aload_n 0, 1)))) <|
  zcons (a := (129, zi_gr 6 1 132)) (zs_gr (M := 97) (pc := 129) (n := 0) (ci := 6) (k := 1) (C := RX6) (T := TX6) (N := 14) (zd_eq zk97 (by decide +kernel : decode cX6_drift 129 = .ok (.getfield 16, 3))) rfl (by decide) (by decide) zin_6 (zl_f zo97 zw_234)) <|
  zcons (a := (132, zi_gr 1 0 135)) (zs_gr (M := 97) (pc := 132) (n := 0) (ci := 1) (k := 0) (C := RX1) (T := TX1) (N := 4) (zd_eq zk97 (by decide +kernel : decode cX6_drift 132 = .ok (.getfield 110, 3))) rfl (by decide) (by decide) zin_1 (zl_f zo97 zw_123)) <|
  zcons (a := (135, zi_cv 26 0 2 138 1)) (zs_cv (M := 97) (pc := 135) (M' := 26) (k := 0) (kd := 1) (ci := 2) (q := (RX2, TX2, 2)) (zd_eq zk97 (by decide +kernel : decode cX6_drift 135 = .ok (.invokevirtual 130, 3))) zWd26 (zl_m zo97 zy26 zw_451) (zl_i zy26 zw_452) (zl_e zy26 zw_453) (by decide) rfl (by rw [zo26])) <|
  zcons (a := (138, zi_ri)) (zs_ri (M := 97) (pc := 138) (zd_eq zk97 (by decide +kernel : decode cX6_drift 138 = .ok (.ireturn, 1))) rfl) <| znil
theorem zS97 : ∀ pc, zm_Snd 97 pc (zm_lk2 zm_c97 pc) := zlk2 (zcons2 zS97_0 (zcons2 zS97_1 (zcons2 zS97_2 (znil2))))
theorem zS98_0 : ∀ q ∈ zm_c98_0, zm_Snd 98 q.1 q.2 :=
  zcons (a := (0, zi_il 1 1)) (zs_il_n (M := 98) (pc := 0) (zd_eq zk98 (by decide +kernel : decode cX6_keep 0 = .ok (.iload_n 1, 1)))) <|
  zcons (a := (1, zi_k (.int 1) 2)) (zs_iconst (M := 98) (pc := 1) (zd_eq zk98 (by decide +kernel : decode cX6_keep 1 = .ok (.iconst 1, 1))) (by decide)) <|
  zcons (a := (2, zi_cs 105 2 5 1)) (zs_cs (M := 98) (pc := 2) (M' := 105) (k := 2) (kd := 1) (zd_eq zk98 (by decide +kernel : decode cX6_keep 2 = .ok (.invokestatic 67, 3))) zWd105 (zl_m zo98 zy105 zw_280) (zl_s zy105 zw_281)) <|
  zcons (a := (5, zi_b1 (fun x => ¬ x = 0) 10 8)) (zs_ifne (M := 98) (pc := 5) (zd_eq zk98 (by decide +kernel : decode cX6_keep 5 = .ok (.ifCond .ne 5, 3))) (by decide)) <|
  zcons (a := (8, zi_k (.int (-1)) 9)) (zs_iconst (M := 98) (pc := 8) (zd_eq zk98 (by decide +kernel : decode cX6_keep 8 = .ok (.iconst (-1), 1))) (by decide)) <|
  zcons (a := (9, zi_ri)) (zs_ri (M := 98) (pc := 9) (zd_eq zk98 (by decide +kernel : decode cX6_keep 9 = .ok (.ireturn, 1))) rfl) <|
  zcons (a := (10, zi_al 0 11)) (zs_al_n (M := 98) (pc := 10) (zd_eq zk98 (by decide +kernel : decode cX6_keep 10 = .ok (.aload_n 0, 1)))) <|
  zcons (a := (11, zi_gr 6 11 14)) (zs_gr (M := 98) (pc := 11) (n := 0) (ci := 6) (k := 11) (C := RX6) (T := TX6) (N := 14) (zd_eq zk98 (by decide +kernel : decode cX6_keep 11 = .ok (.getfield 56, 3))) rfl (by decide) (by decide) zin_6 (zl_f zo98 zw_244)) <|
  zcons (a := (14, zi_il 1 15)) (zs_il_n (M := 98) (pc := 14) (zd_eq zk98 (by decide +kernel : decode cX6_keep 14 = .ok (.iload_n 1, 1)))) <|
  zcons (a := (15, zi_ald 2 16)) (zs_zald (M := 98) (pc := 15) (zd_eq zk98 (by decide +kernel : decode cX6_keep 15 = .ok (.baload, 1)))) <|
  zcons (a := (16, zi_b1 (fun x => x = 0) 23 19)) (zs_ifeq (M := 98) (pc := 16) (zd_eq zk98 (by decide +kernel : decode cX6_keep 16 = .ok (.ifCond .eq 7, 3))) (by decide)) <|
  zcons (a := (19, zi_k (.int 1) 20)) (zs_iconst (M := 98) (pc := 19) (zd_eq zk98 (by decide +kernel : decode cX6_keep 19 = .ok (.iconst 1, 1))) (by decide)) <|
  zcons (a := (20, zi_go 24)) (zs_goto (M := 98) (pc := 20) (zd_eq zk98 (by decide +kernel : decode cX6_keep 20 = .ok (.goto 4, 3))) (by decide)) <|
  zcons (a := (23, zi_k (.int 0) 24)) (zs_iconst (M := 98) (pc := 23) (zd_eq zk98 (by decide +kernel : decode cX6_keep 23 = .ok (.iconst 0, 1))) (by decide)) <|
  zcons (a := (24, zi_is 2 25)) (zs_is_n (M := 98) (pc := 24) (zd_eq zk98 (by decide +kernel : decode cX6_keep 24 = .ok (.istore_n 2, 1))) (by decide +kernel) (by decide +kernel)) <|
  zcons (a := (25, zi_al 0 26)) (zs_al_n (M := 98) (pc := 25) (zd_eq zk98 (by decide +kernel : decode cX6_keep 25 = .ok (.aload_n 0, 1)))) <|
  zcons (a := (26, zi_gr 6 10 29)) (zs_gr (M := 98) (pc := 26) (n := 0) (ci := 6) (k := 10) (C := RX6) (T := TX6) (N := 14) (zd_eq zk98 (by decide +kernel : decode cX6_keep 26 = .ok (.getfield 52, 3))) rfl (by decide) (by decide) zin_6 (zl_f zo98 zw_243)) <|
  zcons (a := (29, zi_il 1 30)) (zs_il_n (M := 98) (pc := 29) (zd_eq zk98 (by decide +kernel : decode cX6_keep 29 = .ok (.iload_n 1, 1)))) <|
  zcons (a := (30, zi_qld 5 31)) (zs_qld (M := 98) (pc := 30) (t := 5) rfl (zd_eq zk98 (by decide +kernel : decode cX6_keep 30 = .ok (.aaload, 1)))) <|
  zcons (a := (31, zi_al 0 32)) (zs_al_n (M := 98) (pc := 31) (zd_eq zk98 (by decide +kernel : decode cX6_keep 31 = .ok (.aload_n 0, 1)))) <|
  zcons (a := (32, zi_gr 6 0 35)) (zs_gr (M := 98) (pc := 32) (n := 0) (ci := 6) (k := 0) (C := RX6) (T := TX6) (N := 14) (zd_eq zk98 (by decide +kernel : decode cX6_keep 32 = .ok (.getfield 10, 3))) rfl (by decide) (by decide) zin_6 (zl_f zo98 zw_233)) <|
  zcons (a := (35, zi_cv 30 1 1 38 0)) (zs_cv (M := 98) (pc := 35) (M' := 30) (k := 1) (kd := 0) (ci := 1) (q := (RX1, TX1, 4)) (zd_eq zk98 (by decide +kernel : decode cX6_keep 35 = .ok (.invokevirtual 100, 3))) zWd30 (zl_m zo98 zy30 zw_411) (zl_i zy30 zw_412) (zl_e zy30 zw_413) (by decide) rfl (by rw [zo30])) <|
  zcons (a := (38, zi_al 0 39)) (zs_al_n (M := 98) (pc := 38) (zd_eq zk98 (by decide +kernel : decode cX6_keep 38 = .ok (.aload_n 0, 1)))) <|
  zcons (a := (39, zi_gr 6 11 42)) (zs_gr (M := 98) (pc := 39) (n := 0) (ci := 6) (k := 11) (C := RX6) (T := TX6) (N := 14) (zd_eq zk98 (by decide +kernel : decode cX6_keep 39 = .ok (.getfield 56, 3))) rfl (by decide) (by decide) zin_6 (zl_f zo98 zw_244)) <| znil
theorem zS98_1 : ∀ q ∈ zm_c98_1, zm_Snd 98 q.1 q.2 :=
  zcons (a := (42, zi_il 1 43)) (zs_il_n (M := 98) (pc := 42) (zd_eq zk98 (by decide +kernel : decode cX6_keep 42 = .ok (.iload_n 1, 1)))) <|
  zcons (a := (43, zi_k (.int 1) 44)) (zs_iconst (M := 98) (pc := 43) (zd_eq zk98 (by decide +kernel : decode cX6_keep 43 = .ok (.iconst 1, 1))) (by decide)) <|
  zcons (a := (44, zi_ast 2 (vp_nar .boolean) 45)) (zs_zast (M := 98) (pc := 44) (zd_eq zk98 (by decide +kernel : decode cX6_keep 44 = .ok (.bastore, 1)))) <|
  zcons (a := (45, zi_il 2 46)) (zs_il_n (M := 98) (pc := 45) (zd_eq zk98 (by decide +kernel : decode cX6_keep 45 = .ok (.iload_n 2, 1)))) <|
  zcons (a := (46, zi_ri)) (zs_ri (M := 98) (pc := 46) (zd_eq zk98 (by decide +kernel : decode cX6_keep 46 = .ok (.ireturn, 1))) rfl) <| znil
theorem zS98 : ∀ pc, zm_Snd 98 pc (zm_lk2 zm_c98 pc) := zlk2 (zcons2 zS98_0 (zcons2 zS98_1 (znil2)))
theorem zS99_0 : ∀ q ∈ zm_c99_0, zm_Snd 99 q.1 q.2 :=
  zcons (a := (0, zi_il 1 1)) (zs_il_n (M := 99) (pc := 0) (zd_eq zk99 (by decide +kernel : decode cX6_back 0 = .ok (.iload_n 1, 1)))) <|
  zcons (a := (1, zi_k (.int 1) 2)) (zs_iconst (M := 99) (pc := 1) (zd_eq zk99 (by decide +kernel : decode cX6_back 1 = .ok (.iconst 1, 1))) (by decide)) <|
  zcons (a := (2, zi_cs 105 2 5 1)) (zs_cs (M := 99) (pc := 2) (M' := 105) (k := 2) (kd := 1) (zd_eq zk99 (by decide +kernel : decode cX6_back 2 = .ok (.invokestatic 67, 3))) zWd105 (zl_m zo99 zy105 zw_280) (zl_s zy105 zw_281)) <|
  zcons (a := (5, zi_b1 (fun x => ¬ x = 0) 10 8)) (zs_ifne (M := 99) (pc := 5) (zd_eq zk99 (by decide +kernel : decode cX6_back 5 = .ok (.ifCond .ne 5, 3))) (by decide)) <|
  zcons (a := (8, zi_k (.int (-1)) 9)) (zs_iconst (M := 99) (pc := 8) (zd_eq zk99 (by decide +kernel : decode cX6_back 8 = .ok (.iconst (-1), 1))) (by decide)) <|
  zcons (a := (9, zi_ri)) (zs_ri (M := 99) (pc := 9) (zd_eq zk99 (by decide +kernel : decode cX6_back 9 = .ok (.ireturn, 1))) rfl) <|
  zcons (a := (10, zi_al 0 11)) (zs_al_n (M := 99) (pc := 10) (zd_eq zk99 (by decide +kernel : decode cX6_back 10 = .ok (.aload_n 0, 1)))) <|
  zcons (a := (11, zi_gr 6 11 14)) (zs_gr (M := 99) (pc := 11) (n := 0) (ci := 6) (k := 11) (C := RX6) (T := TX6) (N := 14) (zd_eq zk99 (by decide +kernel : decode cX6_back 11 = .ok (.getfield 56, 3))) rfl (by decide) (by decide) zin_6 (zl_f zo99 zw_244)) <|
  zcons (a := (14, zi_il 1 15)) (zs_il_n (M := 99) (pc := 14) (zd_eq zk99 (by decide +kernel : decode cX6_back 14 = .ok (.iload_n 1, 1)))) <|
  zcons (a := (15, zi_ald 2 16)) (zs_zald (M := 99) (pc := 15) (zd_eq zk99 (by decide +kernel : decode cX6_back 15 = .ok (.baload, 1)))) <|
  zcons (a := (16, zi_b1 (fun x => ¬ x = 0) 22 19)) (zs_ifne (M := 99) (pc := 16) (zd_eq zk99 (by decide +kernel : decode cX6_back 16 = .ok (.ifCond .ne 6, 3))) (by decide)) <|
  zcons (a := (19, zi_k (.int (-2)) 21)) (zs_bipush (M := 99) (pc := 19) (zd_eq zk99 (by decide +kernel : decode cX6_back 19 = .ok (.bipush (-2), 2))) (by decide)) <|
  zcons (a := (21, zi_ri)) (zs_ri (M := 99) (pc := 21) (zd_eq zk99 (by decide +kernel : decode cX6_back 21 = .ok (.ireturn, 1))) rfl) <|
  zcons (a := (22, zi_al 0 23)) (zs_al_n (M := 99) (pc := 22) (zd_eq zk99 (by decide +kernel : decode cX6_back 22 = .ok (.aload_n 0, 1)))) <|
  zcons (a := (23, zi_gr 6 0 26)) (zs_gr (M := 99) (pc := 23) (n := 0) (ci := 6) (k := 0) (C := RX6) (T := TX6) (N := 14) (zd_eq zk99 (by decide +kernel : decode cX6_back 23 = .ok (.getfield 10, 3))) rfl (by decide) (by decide) zin_6 (zl_f zo99 zw_233)) <|
  zcons (a := (26, zi_al 0 27)) (zs_al_n (M := 99) (pc := 26) (zd_eq zk99 (by decide +kernel : decode cX6_back 26 = .ok (.aload_n 0, 1)))) <|
  zcons (a := (27, zi_gr 6 10 30)) (zs_gr (M := 99) (pc := 27) (n := 0) (ci := 6) (k := 10) (C := RX6) (T := TX6) (N := 14) (zd_eq zk99 (by decide +kernel : decode cX6_back 27 = .ok (.getfield 52, 3))) rfl (by decide) (by decide) zin_6 (zl_f zo99 zw_243)) <|
  zcons (a := (30, zi_il 1 31)) (zs_il_n (M := 99) (pc := 30) (zd_eq zk99 (by decide +kernel : decode cX6_back 30 = .ok (.iload_n 1, 1)))) <|
  zcons (a := (31, zi_qld 5 32)) (zs_qld (M := 99) (pc := 31) (t := 5) rfl (zd_eq zk99 (by decide +kernel : decode cX6_back 31 = .ok (.aaload, 1)))) <|
  zcons (a := (32, zi_cv 30 1 1 35 0)) (zs_cv (M := 99) (pc := 32) (M' := 30) (k := 1) (kd := 0) (ci := 1) (q := (RX1, TX1, 4)) (zd_eq zk99 (by decide +kernel : decode cX6_back 32 = .ok (.invokevirtual 100, 3))) zWd30 (zl_m zo99 zy30 zw_411) (zl_i zy30 zw_412) (zl_e zy30 zw_413) (by decide) rfl (by rw [zo30])) <|
  zcons (a := (35, zi_al 0 36)) (zs_al_n (M := 99) (pc := 35) (zd_eq zk99 (by decide +kernel : decode cX6_back 35 = .ok (.aload_n 0, 1)))) <|
  zcons (a := (36, zi_gr 6 0 39)) (zs_gr (M := 99) (pc := 36) (n := 0) (ci := 6) (k := 0) (C := RX6) (T := TX6) (N := 14) (zd_eq zk99 (by decide +kernel : decode cX6_back 36 = .ok (.getfield 10, 3))) rfl (by decide) (by decide) zin_6 (zl_f zo99 zw_233)) <|
  zcons (a := (39, zi_gi 1 3 42)) (zs_gi (M := 99) (pc := 39) (n := 0) (ci := 1) (k := 3) (C := RX1) (T := TX1) (N := 4) (zd_eq zk99 (by decide +kernel : decode cX6_back 39 = .ok (.getfield 117, 3))) rfl (by decide) (by decide) zin_1 (zl_f zo99 zw_131)) <|
  zcons (a := (42, zi_ri)) (zs_ri (M := 99) (pc := 42) (zd_eq zk99 (by decide +kernel : decode cX6_back 42 = .ok (.ireturn, 1))) rfl) <| znil
theorem zS99 : ∀ pc, zm_Snd 99 pc (zm_lk2 zm_c99 pc) := zlk2 (zcons2 zS99_0 (znil2))
theorem zS100_0 : ∀ q ∈ zm_c100_0, zm_Snd 100 q.1 q.2 :=
  zcons (a := (0, zi_il 1 1)) (zs_il_n (M := 100) (pc := 0) (zd_eq zk100 (by decide +kernel : decode cX6_sheet 0 = .ok (.iload_n 1, 1)))) <|
  zcons (a := (1, zi_k (.int 3) 2)) (zs_iconst (M := 100) (pc := 1) (zd_eq zk100 (by decide +kernel : decode cX6_sheet 1 = .ok (.iconst 3, 1))) (by decide)) <|
  zcons (a := (2, zi_cs 105 2 5 1)) (zs_cs (M := 100) (pc := 2) (M' := 105) (k := 2) (kd := 1) (zd_eq zk100 (by decide +kernel : decode cX6_sheet 2 = .ok (.invokestatic 67, 3))) zWd105 (zl_m zo100 zy105 zw_280) (zl_s zy105 zw_281)) <|
  zcons (a := (5, zi_b1 (fun x => x = 0) 22 8)) (zs_ifeq (M := 100) (pc := 5) (zd_eq zk100 (by decide +kernel : decode cX6_sheet 5 = .ok (.ifCond .eq 17, 3))) (by decide)) <|
  zcons (a := (8, zi_il 2 9)) (zs_il_n (M := 100) (pc := 8) (zd_eq zk100 (by decide +kernel : decode cX6_sheet 8 = .ok (.iload_n 2, 1)))) <|
  zcons (a := (9, zi_k (.int 2) 10)) (zs_iconst (M := 100) (pc := 9) (zd_eq zk100 (by decide +kernel : decode cX6_sheet 9 = .ok (.iconst 2, 1))) (by decide)) <|
  zcons (a := (10, zi_cs 105 2 13 1)) (zs_cs (M := 100) (pc := 10) (M' := 105) (k := 2) (kd := 1) (zd_eq zk100 (by decide +kernel : decode cX6_sheet 10 = .ok (.invokestatic 67, 3))) zWd105 (zl_m zo100 zy105 zw_280) (zl_s zy105 zw_281)) <|
  zcons (a := (13, zi_b1 (fun x => x = 0) 22 16)) (zs_ifeq (M := 100) (pc := 13) (zd_eq zk100 (by decide +kernel : decode cX6_sheet 13 = .ok (.ifCond .eq 9, 3))) (by decide)) <|
  zcons (a := (16, zi_il 3 17)) (zs_il_n (M := 100) (pc := 16) (zd_eq zk100 (by decide +kernel : decode cX6_sheet 16 = .ok (.iload_n 3, 1)))) <|
  zcons (a := (17, zi_k (.int 40) 19)) (zs_bipush (M := 100) (pc := 17) (zd_eq zk100 (by decide +kernel : decode cX6_sheet 17 = .ok (.bipush 40, 2))) (by decide)) <|
  zcons (a := (19, zi_b2 (fun x y => x ≤ y) 24 22)) (zs_icmple (M := 100) (pc := 19) (zd_eq zk100 (by decide +kernel : decode cX6_sheet 19 = .ok (.if_icmp .le 5, 3))) (by decide)) <|
  zcons (a := (22, zi_k (.int (-1)) 23)) (zs_iconst (M := 100) (pc := 22) (zd_eq zk100 (by decide +kernel : decode cX6_sheet 22 = .ok (.iconst (-1), 1))) (by decide)) <|
  zcons (a := (23, zi_ri)) (zs_ri (M := 100) (pc := 23) (zd_eq zk100 (by decide +kernel : decode cX6_sheet 23 = .ok (.ireturn, 1))) rfl) <|
  zcons (a := (24, zi_il 3 25)) (zs_il_n (M := 100) (pc := 24) (zd_eq zk100 (by decide +kernel : decode cX6_sheet 24 = .ok (.iload_n 3, 1)))) <|
  zcons (a := (25, zi_b1 (fun x => 0 ≤ x) 31 28)) (zs_ifge (M := 100) (pc := 25) (zd_eq zk100 (by decide +kernel : decode cX6_sheet 25 = .ok (.ifCond .ge 6, 3))) (by decide)) <|
  zcons (a := (28, zi_k (.int (-14)) 30)) (zs_bipush (M := 100) (pc := 28) (zd_eq zk100 (by decide +kernel : decode cX6_sheet 28 = .ok (.bipush (-14), 2))) (by decide)) <|
  zcons (a := (30, zi_ri)) (zs_ri (M := 100) (pc := 30) (zd_eq zk100 (by decide +kernel : decode cX6_sheet 30 = .ok (.ireturn, 1))) rfl) <|
  zcons (a := (31, zi_al 0 32)) (zs_al_n (M := 100) (pc := 31) (zd_eq zk100 (by decide +kernel : decode cX6_sheet 31 = .ok (.aload_n 0, 1)))) <|
  zcons (a := (32, zi_gr 6 12 35)) (zs_gr (M := 100) (pc := 32) (n := 0) (ci := 6) (k := 12) (C := RX6) (T := TX6) (N := 14) (zd_eq zk100 (by decide +kernel : decode cX6_sheet 32 = .ok (.getfield 62, 3))) rfl (by decide) (by decide) zin_6 (zl_f zo100 zw_245)) <|
  zcons (a := (35, zi_il 1 36)) (zs_il_n (M := 100) (pc := 35) (zd_eq zk100 (by decide +kernel : decode cX6_sheet 35 = .ok (.iload_n 1, 1)))) <|
  zcons (a := (36, zi_qld 6 37)) (zs_qld (M := 100) (pc := 36) (t := 6) rfl (zd_eq zk100 (by decide +kernel : decode cX6_sheet 36 = .ok (.aaload, 1)))) <|
  zcons (a := (37, zi_il 2 38)) (zs_il_n (M := 100) (pc := 37) (zd_eq zk100 (by decide +kernel : decode cX6_sheet 37 = .ok (.iload_n 2, 1)))) <|
  zcons (a := (38, zi_il 3 39)) (zs_il_n (M := 100) (pc := 38) (zd_eq zk100 (by decide +kernel : decode cX6_sheet 38 = .ok (.iload_n 3, 1)))) <|
  zcons (a := (39, zi_cv 57 2 3 42 0)) (zs_cv (M := 100) (pc := 39) (M' := 57) (k := 2) (kd := 0) (ci := 3) (q := (RX3, TX3, 3)) (zd_eq zk100 (by decide +kernel : decode cX6_sheet 39 = .ok (.invokevirtual 258, 3))) zWd57 (zl_m zo100 zy57 zw_753) (zl_i zy57 zw_754) (zl_e zy57 zw_755) (by decide) rfl (by rw [zo57])) <| znil
theorem zS100_1 : ∀ q ∈ zm_c100_1, zm_Snd 100 q.1 q.2 :=
  zcons (a := (42, zi_k (.int 1) 43)) (zs_iconst (M := 100) (pc := 42) (zd_eq zk100 (by decide +kernel : decode cX6_sheet 42 = .ok (.iconst 1, 1))) (by decide)) <|
  zcons (a := (43, zi_ri)) (zs_ri (M := 100) (pc := 43) (zd_eq zk100 (by decide +kernel : decode cX6_sheet 43 = .ok (.ireturn, 1))) rfl) <| znil
theorem zS100 : ∀ pc, zm_Snd 100 pc (zm_lk2 zm_c100 pc) := zlk2 (zcons2 zS100_0 (zcons2 zS100_1 (znil2)))
theorem zS101_0 : ∀ q ∈ zm_c101_0, zm_Snd 101 q.1 q.2 :=
  zcons (a := (0, zi_il 1 1)) (zs_il_n (M := 101) (pc := 0) (zd_eq zk101 (by decide +kernel : decode cX6_lay 0 = .ok (.iload_n 1, 1)))) <|
  zcons (a := (1, zi_k (.int 3) 2)) (zs_iconst (M := 101) (pc := 1) (zd_eq zk101 (by decide +kernel : decode cX6_lay 1 = .ok (.iconst 3, 1))) (by decide)) <|
  zcons (a := (2, zi_cs 105 2 5 1)) (zs_cs (M := 101) (pc := 2) (M' := 105) (k := 2) (kd := 1) (zd_eq zk101 (by decide +kernel : decode cX6_lay 2 = .ok (.invokestatic 67, 3))) zWd105 (zl_m zo101 zy105 zw_280) (zl_s zy105 zw_281)) <|
  zcons (a := (5, zi_b1 (fun x => ¬ x = 0) 10 8)) (zs_ifne (M := 101) (pc := 5) (zd_eq zk101 (by decide +kernel : decode cX6_lay 5 = .ok (.ifCond .ne 5, 3))) (by decide)) <|
  zcons (a := (8, zi_k (.int (-1)) 9)) (zs_iconst (M := 101) (pc := 8) (zd_eq zk101 (by decide +kernel : decode cX6_lay 8 = .ok (.iconst (-1), 1))) (by decide)) <|
  zcons (a := (9, zi_ri)) (zs_ri (M := 101) (pc := 9) (zd_eq zk101 (by decide +kernel : decode cX6_lay 9 = .ok (.ireturn, 1))) rfl) <|
  zcons (a := (10, zi_al 0 11)) (zs_al_n (M := 101) (pc := 10) (zd_eq zk101 (by decide +kernel : decode cX6_lay 10 = .ok (.aload_n 0, 1)))) <|
  zcons (a := (11, zi_gr 6 12 14)) (zs_gr (M := 101) (pc := 11) (n := 0) (ci := 6) (k := 12) (C := RX6) (T := TX6) (N := 14) (zd_eq zk101 (by decide +kernel : decode cX6_lay 11 = .ok (.getfield 62, 3))) rfl (by decide) (by decide) zin_6 (zl_f zo101 zw_245)) <|
  zcons (a := (14, zi_il 1 15)) (zs_il_n (M := 101) (pc := 14) (zd_eq zk101 (by decide +kernel : decode cX6_lay 14 = .ok (.iload_n 1, 1)))) <|
  zcons (a := (15, zi_qld 6 16)) (zs_qld (M := 101) (pc := 15) (t := 6) rfl (zd_eq zk101 (by decide +kernel : decode cX6_lay 15 = .ok (.aaload, 1)))) <|
  zcons (a := (16, zi_as 4 18)) (zs_as_w (M := 101) (pc := 16) (zd_eq zk101 (by decide +kernel : decode cX6_lay 16 = .ok (.astore 4, 2))) (by decide +kernel) (by decide +kernel)) <|
  zcons (a := (18, zi_al 4 20)) (zs_al_w (M := 101) (pc := 18) (zd_eq zk101 (by decide +kernel : decode cX6_lay 18 = .ok (.aload 4, 2)))) <|
  zcons (a := (20, zi_il 2 21)) (zs_il_n (M := 101) (pc := 20) (zd_eq zk101 (by decide +kernel : decode cX6_lay 20 = .ok (.iload_n 2, 1)))) <|
  zcons (a := (21, zi_al 4 23)) (zs_al_w (M := 101) (pc := 21) (zd_eq zk101 (by decide +kernel : decode cX6_lay 21 = .ok (.aload 4, 2)))) <|
  zcons (a := (23, zi_gi 3 1 26)) (zs_gi (M := 101) (pc := 23) (n := 0) (ci := 3) (k := 1) (C := RX3) (T := TX3) (N := 3) (zd_eq zk101 (by decide +kernel : decode cX6_lay 23 = .ok (.getfield 261, 3))) rfl (by decide) (by decide) zin_3 (zl_f zo101 zw_222)) <|
  zcons (a := (26, zi_cv 59 2 3 29 1)) (zs_cv (M := 101) (pc := 26) (M' := 59) (k := 2) (kd := 1) (ci := 3) (q := (RX3, TX3, 3)) (zd_eq zk101 (by decide +kernel : decode cX6_lay 26 = .ok (.invokevirtual 264, 3))) zWd59 (zl_m zo101 zy59 zw_762) (zl_i zy59 zw_763) (zl_e zy59 zw_764) (by decide) rfl (by rw [zo59])) <|
  zcons (a := (29, zi_is 5 31)) (zs_is_w (M := 101) (pc := 29) (zd_eq zk101 (by decide +kernel : decode cX6_lay 29 = .ok (.istore 5, 2))) (by decide +kernel) (by decide +kernel)) <|
  zcons (a := (31, zi_il 5 33)) (zs_il_w (M := 101) (pc := 31) (zd_eq zk101 (by decide +kernel : decode cX6_lay 31 = .ok (.iload 5, 2)))) <|
  zcons (a := (33, zi_b1 (fun x => x = 0) 42 36)) (zs_ifeq (M := 101) (pc := 33) (zd_eq zk101 (by decide +kernel : decode cX6_lay 33 = .ok (.ifCond .eq 9, 3))) (by decide)) <|
  zcons (a := (36, zi_k (.int (-10)) 38)) (zs_bipush (M := 101) (pc := 36) (zd_eq zk101 (by decide +kernel : decode cX6_lay 36 = .ok (.bipush (-10), 2))) (by decide)) <|
  zcons (a := (38, zi_il 5 40)) (zs_il_w (M := 101) (pc := 38) (zd_eq zk101 (by decide +kernel : decode cX6_lay 38 = .ok (.iload 5, 2)))) <|
  zcons (a := (40, zi_bin (· - ·) 41)) (zs_isub (M := 101) (pc := 40) (zd_eq zk101 (by decide +kernel : decode cX6_lay 40 = .ok (.isub, 1)))) <|
  zcons (a := (41, zi_ri)) (zs_ri (M := 101) (pc := 41) (zd_eq zk101 (by decide +kernel : decode cX6_lay 41 = .ok (.ireturn, 1))) rfl) <|
  zcons (a := (42, zi_al 4 44)) (zs_al_w (M := 101) (pc := 42) (zd_eq zk101 (by decide +kernel : decode cX6_lay 42 = .ok (.aload 4, 2)))) <| znil
theorem zS101_1 : ∀ q ∈ zm_c101_1, zm_Snd 101 q.1 q.2 :=
  zcons (a := (44, zi_il 2 45)) (zs_il_n (M := 101) (pc := 44) (zd_eq zk101 (by decide +kernel : decode cX6_lay 44 = .ok (.iload_n 2, 1)))) <|
  zcons (a := (45, zi_il 3 46)) (zs_il_n (M := 101) (pc := 45) (zd_eq zk101 (by decide +kernel : decode cX6_lay 45 = .ok (.iload_n 3, 1)))) <|
  zcons (a := (46, zi_cv 58 2 3 49 0)) (zs_cv (M := 101) (pc := 46) (M' := 58) (k := 2) (kd := 0) (ci := 3) (q := (RX3, TX3, 3)) (zd_eq zk101 (by decide +kernel : decode cX6_lay 46 = .ok (.invokevirtual 267, 3))) zWd58 (zl_m zo101 zy58 zw_766) (zl_i zy58 zw_767) (zl_e zy58 zw_768) (by decide) rfl (by rw [zo58])) <|
  zcons (a := (49, zi_k (.int 1) 50)) (zs_iconst (M := 101) (pc := 49) (zd_eq zk101 (by decide +kernel : decode cX6_lay 49 = .ok (.iconst 1, 1))) (by decide)) <|
  zcons (a := (50, zi_ri)) (zs_ri (M := 101) (pc := 50) (zd_eq zk101 (by decide +kernel : decode cX6_lay 50 = .ok (.ireturn, 1))) rfl) <| znil
theorem zS101 : ∀ pc, zm_Snd 101 pc (zm_lk2 zm_c101 pc) := zlk2 (zcons2 zS101_0 (zcons2 zS101_1 (znil2)))
theorem zS102_0 : ∀ q ∈ zm_c102_0, zm_Snd 102 q.1 q.2 :=
  zcons (a := (0, zi_il 1 1)) (zs_il_n (M := 102) (pc := 0) (zd_eq zk102 (by decide +kernel : decode cX6_read 0 = .ok (.iload_n 1, 1)))) <|
  zcons (a := (1, zi_k (.int 3) 2)) (zs_iconst (M := 102) (pc := 1) (zd_eq zk102 (by decide +kernel : decode cX6_read 1 = .ok (.iconst 3, 1))) (by decide)) <|
  zcons (a := (2, zi_cs 105 2 5 1)) (zs_cs (M := 102) (pc := 2) (M' := 105) (k := 2) (kd := 1) (zd_eq zk102 (by decide +kernel : decode cX6_read 2 = .ok (.invokestatic 67, 3))) zWd105 (zl_m zo102 zy105 zw_280) (zl_s zy105 zw_281)) <|
  zcons (a := (5, zi_b1 (fun x => x = 0) 26 8)) (zs_ifeq (M := 102) (pc := 5) (zd_eq zk102 (by decide +kernel : decode cX6_read 5 = .ok (.ifCond .eq 21, 3))) (by decide)) <|
  zcons (a := (8, zi_il 2 9)) (zs_il_n (M := 102) (pc := 8) (zd_eq zk102 (by decide +kernel : decode cX6_read 8 = .ok (.iload_n 2, 1)))) <|
  zcons (a := (9, zi_k (.int 2) 10)) (zs_iconst (M := 102) (pc := 9) (zd_eq zk102 (by decide +kernel : decode cX6_read 9 = .ok (.iconst 2, 1))) (by decide)) <|
  zcons (a := (10, zi_cs 105 2 13 1)) (zs_cs (M := 102) (pc := 10) (M' := 105) (k := 2) (kd := 1) (zd_eq zk102 (by decide +kernel : decode cX6_read 10 = .ok (.invokestatic 67, 3))) zWd105 (zl_m zo102 zy105 zw_280) (zl_s zy105 zw_281)) <|
  zcons (a := (13, zi_b1 (fun x => x = 0) 26 16)) (zs_ifeq (M := 102) (pc := 13) (zd_eq zk102 (by decide +kernel : decode cX6_read 13 = .ok (.ifCond .eq 13, 3))) (by decide)) <|
  zcons (a := (16, zi_il 4 18)) (zs_il_w (M := 102) (pc := 16) (zd_eq zk102 (by decide +kernel : decode cX6_read 16 = .ok (.iload 4, 2)))) <|
  zcons (a := (18, zi_k (.int 20) 20)) (zs_bipush (M := 102) (pc := 18) (zd_eq zk102 (by decide +kernel : decode cX6_read 18 = .ok (.bipush 20, 2))) (by decide)) <|
  zcons (a := (20, zi_cs 105 2 23 1)) (zs_cs (M := 102) (pc := 20) (M' := 105) (k := 2) (kd := 1) (zd_eq zk102 (by decide +kernel : decode cX6_read 20 = .ok (.invokestatic 67, 3))) zWd105 (zl_m zo102 zy105 zw_280) (zl_s zy105 zw_281)) <|
  zcons (a := (23, zi_b1 (fun x => ¬ x = 0) 28 26)) (zs_ifne (M := 102) (pc := 23) (zd_eq zk102 (by decide +kernel : decode cX6_read 23 = .ok (.ifCond .ne 5, 3))) (by decide)) <|
  zcons (a := (26, zi_k (.int (-1)) 27)) (zs_iconst (M := 102) (pc := 26) (zd_eq zk102 (by decide +kernel : decode cX6_read 26 = .ok (.iconst (-1), 1))) (by decide)) <|
  zcons (a := (27, zi_ri)) (zs_ri (M := 102) (pc := 27) (zd_eq zk102 (by decide +kernel : decode cX6_read 27 = .ok (.ireturn, 1))) rfl) <|
  zcons (a := (28, zi_al 0 29)) (zs_al_n (M := 102) (pc := 28) (zd_eq zk102 (by decide +kernel : decode cX6_read 28 = .ok (.aload_n 0, 1)))) <|
  zcons (a := (29, zi_gr 6 12 32)) (zs_gr (M := 102) (pc := 29) (n := 0) (ci := 6) (k := 12) (C := RX6) (T := TX6) (N := 14) (zd_eq zk102 (by decide +kernel : decode cX6_read 29 = .ok (.getfield 62, 3))) rfl (by decide) (by decide) zin_6 (zl_f zo102 zw_245)) <|
  zcons (a := (32, zi_il 1 33)) (zs_il_n (M := 102) (pc := 32) (zd_eq zk102 (by decide +kernel : decode cX6_read 32 = .ok (.iload_n 1, 1)))) <|
  zcons (a := (33, zi_qld 6 34)) (zs_qld (M := 102) (pc := 33) (t := 6) rfl (zd_eq zk102 (by decide +kernel : decode cX6_read 33 = .ok (.aaload, 1)))) <|
  zcons (a := (34, zi_as 5 36)) (zs_as_w (M := 102) (pc := 34) (zd_eq zk102 (by decide +kernel : decode cX6_read 34 = .ok (.astore 5, 2))) (by decide +kernel) (by decide +kernel)) <|
  zcons (a := (36, zi_al 0 37)) (zs_al_n (M := 102) (pc := 36) (zd_eq zk102 (by decide +kernel : decode cX6_read 36 = .ok (.aload_n 0, 1)))) <|
  zcons (a := (37, zi_gr 6 0 40)) (zs_gr (M := 102) (pc := 37) (n := 0) (ci := 6) (k := 0) (C := RX6) (T := TX6) (N := 14) (zd_eq zk102 (by decide +kernel : decode cX6_read 37 = .ok (.getfield 10, 3))) rfl (by decide) (by decide) zin_6 (zl_f zo102 zw_233)) <|
  zcons (a := (40, zi_gr 1 0 43)) (zs_gr (M := 102) (pc := 40) (n := 0) (ci := 1) (k := 0) (C := RX1) (T := TX1) (N := 4) (zd_eq zk102 (by decide +kernel : decode cX6_read 40 = .ok (.getfield 110, 3))) rfl (by decide) (by decide) zin_1 (zl_f zo102 zw_123)) <|
  zcons (a := (43, zi_gi 2 1 46)) (zs_gi (M := 102) (pc := 43) (n := 0) (ci := 2) (k := 1) (C := RX2) (T := TX2) (N := 2) (zd_eq zk102 (by decide +kernel : decode cX6_read 43 = .ok (.getfield 114, 3))) rfl (by decide) (by decide) zin_2 (zl_f zo102 zw_112)) <|
  zcons (a := (46, zi_is 6 48)) (zs_is_w (M := 102) (pc := 46) (zd_eq zk102 (by decide +kernel : decode cX6_read 46 = .ok (.istore 6, 2))) (by decide +kernel) (by decide +kernel)) <| znil
theorem zS102_1 : ∀ q ∈ zm_c102_1, zm_Snd 102 q.1 q.2 :=
  zcons (a := (48, zi_k (.int 0) 49)) (zs_iconst (M := 102) (pc := 48) (zd_eq zk102 (by decide +kernel : decode cX6_read 48 = .ok (.iconst 0, 1))) (by decide)) <|
  zcons (a := (49, zi_is 7 51)) (zs_is_w (M := 102) (pc := 49) (zd_eq zk102 (by decide +kernel : decode cX6_read 49 = .ok (.istore 7, 2))) (by decide +kernel) (by decide +kernel)) <|
  zcons (a := (51, zi_il 7 53)) (zs_il_w (M := 102) (pc := 51) (zd_eq zk102 (by decide +kernel : decode cX6_read 51 = .ok (.iload 7, 2)))) <|
  zcons (a := (53, zi_il 4 55)) (zs_il_w (M := 102) (pc := 53) (zd_eq zk102 (by decide +kernel : decode cX6_read 53 = .ok (.iload 4, 2)))) <|
  zcons (a := (55, zi_b2 (fun x y => y ≤ x) 140 58)) (zs_icmpge (M := 102) (pc := 55) (zd_eq zk102 (by decide +kernel : decode cX6_read 55 = .ok (.if_icmp .ge 85, 3))) (by decide)) <|
  zcons (a := (58, zi_al 5 60)) (zs_al_w (M := 102) (pc := 58) (zd_eq zk102 (by decide +kernel : decode cX6_read 58 = .ok (.aload 5, 2)))) <|
  zcons (a := (60, zi_il 3 61)) (zs_il_n (M := 102) (pc := 60) (zd_eq zk102 (by decide +kernel : decode cX6_read 60 = .ok (.iload_n 3, 1)))) <|
  zcons (a := (61, zi_il 7 63)) (zs_il_w (M := 102) (pc := 61) (zd_eq zk102 (by decide +kernel : decode cX6_read 61 = .ok (.iload 7, 2)))) <|
  zcons (a := (63, zi_il 2 64)) (zs_il_n (M := 102) (pc := 63) (zd_eq zk102 (by decide +kernel : decode cX6_read 63 = .ok (.iload_n 2, 1)))) <|
  zcons (a := (64, zi_cv 60 3 3 67 1)) (zs_cv (M := 102) (pc := 64) (M' := 60) (k := 3) (kd := 1) (ci := 3) (q := (RX3, TX3, 3)) (zd_eq zk102 (by decide +kernel : decode cX6_read 64 = .ok (.invokevirtual 268, 3))) zWd60 (zl_m zo102 zy60 zw_774) (zl_i zy60 zw_775) (zl_e zy60 zw_776) (by decide) rfl (by rw [zo60])) <|
  zcons (a := (67, zi_is 8 69)) (zs_is_w (M := 102) (pc := 67) (zd_eq zk102 (by decide +kernel : decode cX6_read 67 = .ok (.istore 8, 2))) (by decide +kernel) (by decide +kernel)) <|
  zcons (a := (69, zi_il 8 71)) (zs_il_w (M := 102) (pc := 69) (zd_eq zk102 (by decide +kernel : decode cX6_read 69 = .ok (.iload 8, 2)))) <|
  zcons (a := (71, zi_b1 (fun x => x = 0) 83 74)) (zs_ifeq (M := 102) (pc := 71) (zd_eq zk102 (by decide +kernel : decode cX6_read 71 = .ok (.ifCond .eq 12, 3))) (by decide)) <|
  zcons (a := (74, zi_al 0 75)) (zs_al_n (M := 102) (pc := 74) (zd_eq zk102 (by decide +kernel : decode cX6_read 74 = .ok (.aload_n 0, 1)))) <|
  zcons (a := (75, zi_il 8 77)) (zs_il_w (M := 102) (pc := 75) (zd_eq zk102 (by decide +kernel : decode cX6_read 75 = .ok (.iload 8, 2)))) <|
  zcons (a := (77, zi_pf 6 13 80)) (zs_pf (M := 102) (pc := 77) (ci := 6) (k := 13) (C := RX6) (T := TX6) (N := 14) (ty0 := tyX6) (zd_eq zk102 (by decide +kernel : decode cX6_read 77 = .ok (.putfield 271, 3))) rfl (by decide) (by decide) zin_6 (zl_f zo102 zw_246) tyX6_ok nmX6 rfl (tyX6_ok 13 (by decide))) <|
  zcons (a := (80, zi_il 7 82)) (zs_il_w (M := 102) (pc := 80) (zd_eq zk102 (by decide +kernel : decode cX6_read 80 = .ok (.iload 7, 2)))) <|
  zcons (a := (82, zi_ri)) (zs_ri (M := 102) (pc := 82) (zd_eq zk102 (by decide +kernel : decode cX6_read 82 = .ok (.ireturn, 1))) rfl) <|
  zcons (a := (83, zi_il 3 84)) (zs_il_n (M := 102) (pc := 83) (zd_eq zk102 (by decide +kernel : decode cX6_read 83 = .ok (.iload_n 3, 1)))) <|
  zcons (a := (84, zi_k (.int 2) 85)) (zs_iconst (M := 102) (pc := 84) (zd_eq zk102 (by decide +kernel : decode cX6_read 84 = .ok (.iconst 2, 1))) (by decide)) <|
  zcons (a := (85, zi_il 7 87)) (zs_il_w (M := 102) (pc := 85) (zd_eq zk102 (by decide +kernel : decode cX6_read 85 = .ok (.iload 7, 2)))) <|
  zcons (a := (87, zi_bin (· * ·) 88)) (zs_imul (M := 102) (pc := 87) (zd_eq zk102 (by decide +kernel : decode cX6_read 87 = .ok (.imul, 1)))) <|
  zcons (a := (88, zi_bin (· + ·) 89)) (zs_iadd (M := 102) (pc := 88) (zd_eq zk102 (by decide +kernel : decode cX6_read 88 = .ok (.iadd, 1)))) <|
  zcons (a := (89, zi_is 9 91)) (zs_is_w (M := 102) (pc := 89) (zd_eq zk102 (by decide +kernel : decode cX6_read 89 = .ok (.istore 9, 2))) (by decide +kernel) (by decide +kernel)) <| znil
theorem zS102_2 : ∀ q ∈ zm_c102_2, zm_Snd 102 q.1 q.2 :=
  zcons (a := (91, zi_al 0 92)) (zs_al_n (M := 102) (pc := 91) (zd_eq zk102 (by decide +kernel : decode cX6_read 91 = .ok (.aload_n 0, 1)))) <|
  zcons (a := (92, zi_al 5 94)) (zs_al_w (M := 102) (pc := 92) (zd_eq zk102 (by decide +kernel : decode cX6_read 92 = .ok (.aload 5, 2)))) <|
  zcons (a := (94, zi_gr 3 0 97)) (zs_gr (M := 102) (pc := 94) (n := 0) (ci := 3) (k := 0) (C := RX3) (T := TX3) (N := 3) (zd_eq zk102 (by decide +kernel : decode cX6_read 94 = .ok (.getfield 274, 3))) rfl (by decide) (by decide) zin_3 (zl_f zo102 zw_220)) <|
  zcons (a := (97, zi_il 9 99)) (zs_il_w (M := 102) (pc := 97) (zd_eq zk102 (by decide +kernel : decode cX6_read 97 = .ok (.iload 9, 2)))) <|
  zcons (a := (99, zi_ald 0 100)) (zs_iald (M := 102) (pc := 99) (zd_eq zk102 (by decide +kernel : decode cX6_read 99 = .ok (.iaload, 1)))) <|
  zcons (a := (100, zi_al 5 102)) (zs_al_w (M := 102) (pc := 100) (zd_eq zk102 (by decide +kernel : decode cX6_read 100 = .ok (.aload 5, 2)))) <|
  zcons (a := (102, zi_gr 3 0 105)) (zs_gr (M := 102) (pc := 102) (n := 0) (ci := 3) (k := 0) (C := RX3) (T := TX3) (N := 3) (zd_eq zk102 (by decide +kernel : decode cX6_read 102 = .ok (.getfield 274, 3))) rfl (by decide) (by decide) zin_3 (zl_f zo102 zw_220)) <|
  zcons (a := (105, zi_il 9 107)) (zs_il_w (M := 102) (pc := 105) (zd_eq zk102 (by decide +kernel : decode cX6_read 105 = .ok (.iload 9, 2)))) <|
  zcons (a := (107, zi_k (.int 1) 108)) (zs_iconst (M := 102) (pc := 107) (zd_eq zk102 (by decide +kernel : decode cX6_read 107 = .ok (.iconst 1, 1))) (by decide)) <|
  zcons (a := (108, zi_bin (· + ·) 109)) (zs_iadd (M := 102) (pc := 108) (zd_eq zk102 (by decide +kernel : decode cX6_read 108 = .ok (.iadd, 1)))) <|
  zcons (a := (109, zi_ald 0 110)) (zs_iald (M := 102) (pc := 109) (zd_eq zk102 (by decide +kernel : decode cX6_read 109 = .ok (.iaload, 1)))) <|
  zcons (a := (110, zi_cv 110 2 6 113 1)) (zs_cv (M := 102) (pc := 110) (M' := 110) (k := 2) (kd := 1) (ci := 6) (q := (RX6, TX6, 14)) (zd_eq zk102 (by decide +kernel : decode cX6_read 110 = .ok (.invokevirtual 167, 3))) zWd110 (zl_m zo102 zy110 zw_501) (zl_i zy110 zw_503) (zl_e zy110 zw_10) (by decide) rfl (by rw [zo110])) <|
  zcons (a := (113, zi_b1 (fun x => 0 ≤ x) 134 116)) (zs_ifge (M := 102) (pc := 113) (zd_eq zk102 (by decide +kernel : decode cX6_read 113 = .ok (.ifCond .ge 21, 3))) (by decide)) <|
  zcons (a := (116, zi_al 0 117)) (zs_al_n (M := 102) (pc := 116) (zd_eq zk102 (by decide +kernel : decode cX6_read 116 = .ok (.aload_n 0, 1)))) <|
  zcons (a := (117, zi_gr 6 0 120)) (zs_gr (M := 102) (pc := 117) (n := 0) (ci := 6) (k := 0) (C := RX6) (T := TX6) (N := 14) (zd_eq zk102 (by decide +kernel : decode cX6_read 117 = .ok (.getfield 10, 3))) rfl (by decide) (by decide) zin_6 (zl_f zo102 zw_233)) <|
  zcons (a := (120, zi_gr 1 0 123)) (zs_gr (M := 102) (pc := 120) (n := 0) (ci := 1) (k := 0) (C := RX1) (T := TX1) (N := 4) (zd_eq zk102 (by decide +kernel : decode cX6_read 120 = .ok (.getfield 110, 3))) rfl (by decide) (by decide) zin_1 (zl_f zo102 zw_123)) <|
  zcons (a := (123, zi_il 6 125)) (zs_il_w (M := 102) (pc := 123) (zd_eq zk102 (by decide +kernel : decode cX6_read 123 = .ok (.iload 6, 2)))) <|
  zcons (a := (125, zi_pf 2 1 128)) (zs_pf (M := 102) (pc := 125) (ci := 2) (k := 1) (C := RX2) (T := TX2) (N := 2) (ty0 := tyX2) (zd_eq zk102 (by decide +kernel : decode cX6_read 125 = .ok (.putfield 114, 3))) rfl (by decide) (by decide) zin_2 (zl_f zo102 zw_112) tyX2_ok nmX2 rfl (tyX2_ok 1 (by decide))) <|
  zcons (a := (128, zi_k (.int (-20)) 130)) (zs_bipush (M := 102) (pc := 128) (zd_eq zk102 (by decide +kernel : decode cX6_read 128 = .ok (.bipush (-20), 2))) (by decide)) <|
  zcons (a := (130, zi_il 7 132)) (zs_il_w (M := 102) (pc := 130) (zd_eq zk102 (by decide +kernel : decode cX6_read 130 = .ok (.iload 7, 2)))) <|
  zcons (a := (132, zi_bin (· - ·) 133)) (zs_isub (M := 102) (pc := 132) (zd_eq zk102 (by decide +kernel : decode cX6_read 132 = .ok (.isub, 1)))) <|
  zcons (a := (133, zi_ri)) (zs_ri (M := 102) (pc := 133) (zd_eq zk102 (by decide +kernel : decode cX6_read 133 = .ok (.ireturn, 1))) rfl) <|
  zcons (a := (134, zi_inc 7 1 137)) (zs_inc (M := 102) (pc := 134) (zd_eq zk102 (by decide +kernel : decode cX6_read 134 = .ok (.iinc 7 1, 3))) (by decide) (by decide +kernel) (by decide +kernel)) <|
  zcons (a := (137, zi_go 51)) (zs_goto (M := 102) (pc := 137) (zd_eq zk102 (by decide +kernel : decode cX6_read 137 = .ok (.goto (-86), 3))) (by decide)) <| znil
theorem zS102_3 : ∀ q ∈ zm_c102_3, zm_Snd 102 q.1 q.2 :=
  zcons (a := (140, zi_al 0 141)) (zs_al_n (M := 102) (pc := 140) (zd_eq zk102 (by decide +kernel : decode cX6_read 140 = .ok (.aload_n 0, 1)))) <|
  zcons (a := (141, zi_k (.int 0) 142)) (zs_iconst (M := 102) (pc := 141) (zd_eq zk102 (by decide +kernel : decode cX6_read 141 = .ok (.iconst 0, 1))) (by decide)) <|
  zcons (a := (142, zi_pf 6 13 145)) (zs_pf (M := 102) (pc := 142) (ci := 6) (k := 13) (C := RX6) (T := TX6) (N := 14) (ty0 := tyX6) (zd_eq zk102 (by decide +kernel : decode cX6_read 142 = .ok (.putfield 271, 3))) rfl (by decide) (by decide) zin_6 (zl_f zo102 zw_246) tyX6_ok nmX6 rfl (tyX6_ok 13 (by decide))) <|
  zcons (a := (145, zi_il 4 147)) (zs_il_w (M := 102) (pc := 145) (zd_eq zk102 (by decide +kernel : decode cX6_read 145 = .ok (.iload 4, 2)))) <|
  zcons (a := (147, zi_ri)) (zs_ri (M := 102) (pc := 147) (zd_eq zk102 (by decide +kernel : decode cX6_read 147 = .ok (.ireturn, 1))) rfl) <| znil
theorem zS102 : ∀ pc, zm_Snd 102 pc (zm_lk2 zm_c102 pc) := zlk2 (zcons2 zS102_0 (zcons2 zS102_1 (zcons2 zS102_2 (zcons2 zS102_3 (znil2)))))
theorem zS103_0 : ∀ q ∈ zm_c103_0, zm_Snd 103 q.1 q.2 :=
  zcons (a := (0, zi_al 0 1)) (zs_al_n (M := 103) (pc := 0) (zd_eq zk103 (by decide +kernel : decode cX6_torn 0 = .ok (.aload_n 0, 1)))) <|
  zcons (a := (1, zi_gi 6 13 4)) (zs_gi (M := 103) (pc := 1) (n := 0) (ci := 6) (k := 13) (C := RX6) (T := TX6) (N := 14) (zd_eq zk103 (by decide +kernel : decode cX6_torn 1 = .ok (.getfield 271, 3))) rfl (by decide) (by decide) zin_6 (zl_f zo103 zw_246)) <|
  zcons (a := (4, zi_ri)) (zs_ri (M := 103) (pc := 4) (zd_eq zk103 (by decide +kernel : decode cX6_torn 4 = .ok (.ireturn, 1))) rfl) <| znil
theorem zS103 : ∀ pc, zm_Snd 103 pc (zm_lk2 zm_c103 pc) := zlk2 (zcons2 zS103_0 (znil2))
theorem zS104_0 : ∀ q ∈ zm_c104_0, zm_Snd 104 q.1 q.2 :=
  zcons (a := (0, zi_il 1 1)) (zs_il_n (M := 104) (pc := 0) (zd_eq zk104 (by decide +kernel : decode cX6_count 0 = .ok (.iload_n 1, 1)))) <|
  zcons (a := (1, zi_ts 0 5 [40, 45, 75, 86, 114, 125] 136)) (zs_ts (M := 104) (pc := 1) (zd_eq zk104 (by decide +kernel : decode cX6_count 1 = .ok (.tableswitch 135 0 5 #[39, 44, 74, 85, 113, 124], 39))) (by decide) (zts_dec (by decide +kernel))) <|
  zcons (a := (40, zi_al 0 41)) (zs_al_n (M := 104) (pc := 40) (zd_eq zk104 (by decide +kernel : decode cX6_count 40 = .ok (.aload_n 0, 1)))) <|
  zcons (a := (41, zi_gi 6 9 44)) (zs_gi (M := 104) (pc := 41) (n := 0) (ci := 6) (k := 9) (C := RX6) (T := TX6) (N := 14) (zd_eq zk104 (by decide +kernel : decode cX6_count 41 = .ok (.getfield 104, 3))) rfl (by decide) (by decide) zin_6 (zl_f zo104 zw_242)) <|
  zcons (a := (44, zi_ri)) (zs_ri (M := 104) (pc := 44) (zd_eq zk104 (by decide +kernel : decode cX6_count 44 = .ok (.ireturn, 1))) rfl) <|
  zcons (a := (45, zi_al 0 46)) (zs_al_n (M := 104) (pc := 45) (zd_eq zk104 (by decide +kernel : decode cX6_count 45 = .ok (.aload_n 0, 1)))) <|
  zcons (a := (46, zi_gr 6 11 49)) (zs_gr (M := 104) (pc := 46) (n := 0) (ci := 6) (k := 11) (C := RX6) (T := TX6) (N := 14) (zd_eq zk104 (by decide +kernel : decode cX6_count 46 = .ok (.getfield 56, 3))) rfl (by decide) (by decide) zin_6 (zl_f zo104 zw_244)) <|
  zcons (a := (49, zi_k (.int 0) 50)) (zs_iconst (M := 104) (pc := 49) (zd_eq zk104 (by decide +kernel : decode cX6_count 49 = .ok (.iconst 0, 1))) (by decide)) <|
  zcons (a := (50, zi_ald 2 51)) (zs_zald (M := 104) (pc := 50) (zd_eq zk104 (by decide +kernel : decode cX6_count 50 = .ok (.baload, 1)))) <|
  zcons (a := (51, zi_b1 (fun x => x = 0) 58 54)) (zs_ifeq (M := 104) (pc := 51) (zd_eq zk104 (by decide +kernel : decode cX6_count 51 = .ok (.ifCond .eq 7, 3))) (by decide)) <|
  zcons (a := (54, zi_k (.int 1) 55)) (zs_iconst (M := 104) (pc := 54) (zd_eq zk104 (by decide +kernel : decode cX6_count 54 = .ok (.iconst 1, 1))) (by decide)) <|
  zcons (a := (55, zi_go 59)) (zs_goto (M := 104) (pc := 55) (zd_eq zk104 (by decide +kernel : decode cX6_count 55 = .ok (.goto 4, 3))) (by decide)) <|
  zcons (a := (58, zi_k (.int 0) 59)) (zs_iconst (M := 104) (pc := 58) (zd_eq zk104 (by decide +kernel : decode cX6_count 58 = .ok (.iconst 0, 1))) (by decide)) <|
  zcons (a := (59, zi_al 0 60)) (zs_al_n (M := 104) (pc := 59) (zd_eq zk104 (by decide +kernel : decode cX6_count 59 = .ok (.aload_n 0, 1)))) <|
  zcons (a := (60, zi_gr 6 11 63)) (zs_gr (M := 104) (pc := 60) (n := 0) (ci := 6) (k := 11) (C := RX6) (T := TX6) (N := 14) (zd_eq zk104 (by decide +kernel : decode cX6_count 60 = .ok (.getfield 56, 3))) rfl (by decide) (by decide) zin_6 (zl_f zo104 zw_244)) <|
  zcons (a := (63, zi_k (.int 1) 64)) (zs_iconst (M := 104) (pc := 63) (zd_eq zk104 (by decide +kernel : decode cX6_count 63 = .ok (.iconst 1, 1))) (by decide)) <|
  zcons (a := (64, zi_ald 2 65)) (zs_zald (M := 104) (pc := 64) (zd_eq zk104 (by decide +kernel : decode cX6_count 64 = .ok (.baload, 1)))) <|
  zcons (a := (65, zi_b1 (fun x => x = 0) 72 68)) (zs_ifeq (M := 104) (pc := 65) (zd_eq zk104 (by decide +kernel : decode cX6_count 65 = .ok (.ifCond .eq 7, 3))) (by decide)) <|
  zcons (a := (68, zi_k (.int 1) 69)) (zs_iconst (M := 104) (pc := 68) (zd_eq zk104 (by decide +kernel : decode cX6_count 68 = .ok (.iconst 1, 1))) (by decide)) <|
  zcons (a := (69, zi_go 73)) (zs_goto (M := 104) (pc := 69) (zd_eq zk104 (by decide +kernel : decode cX6_count 69 = .ok (.goto 4, 3))) (by decide)) <|
  zcons (a := (72, zi_k (.int 0) 73)) (zs_iconst (M := 104) (pc := 72) (zd_eq zk104 (by decide +kernel : decode cX6_count 72 = .ok (.iconst 0, 1))) (by decide)) <|
  zcons (a := (73, zi_bin (· + ·) 74)) (zs_iadd (M := 104) (pc := 73) (zd_eq zk104 (by decide +kernel : decode cX6_count 73 = .ok (.iadd, 1)))) <|
  zcons (a := (74, zi_ri)) (zs_ri (M := 104) (pc := 74) (zd_eq zk104 (by decide +kernel : decode cX6_count 74 = .ok (.ireturn, 1))) rfl) <|
  zcons (a := (75, zi_al 0 76)) (zs_al_n (M := 104) (pc := 75) (zd_eq zk104 (by decide +kernel : decode cX6_count 75 = .ok (.aload_n 0, 1)))) <| znil
theorem zS104_1 : ∀ q ∈ zm_c104_1, zm_Snd 104 q.1 q.2 :=
  zcons (a := (76, zi_gr 6 5 79)) (zs_gr (M := 104) (pc := 76) (n := 0) (ci := 6) (k := 5) (C := RX6) (T := TX6) (N := 14) (zd_eq zk104 (by decide +kernel : decode cX6_count 76 = .ok (.getfield 41, 3))) rfl (by decide) (by decide) zin_6 (zl_f zo104 zw_238)) <|
  zcons (a := (79, zi_gr 5 0 82)) (zs_gr (M := 104) (pc := 79) (n := 0) (ci := 5) (k := 0) (C := RX5) (T := TX5) (N := 6) (zd_eq zk104 (by decide +kernel : decode cX6_count 79 = .ok (.getfield 71, 3))) rfl (by decide) (by decide) zin_5 (zl_f zo104 zw_188)) <|
  zcons (a := (82, zi_gi 4 1 85)) (zs_gi (M := 104) (pc := 82) (n := 0) (ci := 4) (k := 1) (C := RX4) (T := TX4) (N := 6) (zd_eq zk104 (by decide +kernel : decode cX6_count 82 = .ok (.getfield 75, 3))) rfl (by decide) (by decide) zin_4 (zl_f zo104 zw_163)) <|
  zcons (a := (85, zi_ri)) (zs_ri (M := 104) (pc := 85) (zd_eq zk104 (by decide +kernel : decode cX6_count 85 = .ok (.ireturn, 1))) rfl) <|
  zcons (a := (86, zi_al 0 87)) (zs_al_n (M := 104) (pc := 86) (zd_eq zk104 (by decide +kernel : decode cX6_count 86 = .ok (.aload_n 0, 1)))) <|
  zcons (a := (87, zi_gr 6 12 90)) (zs_gr (M := 104) (pc := 87) (n := 0) (ci := 6) (k := 12) (C := RX6) (T := TX6) (N := 14) (zd_eq zk104 (by decide +kernel : decode cX6_count 87 = .ok (.getfield 62, 3))) rfl (by decide) (by decide) zin_6 (zl_f zo104 zw_245)) <|
  zcons (a := (90, zi_k (.int 0) 91)) (zs_iconst (M := 104) (pc := 90) (zd_eq zk104 (by decide +kernel : decode cX6_count 90 = .ok (.iconst 0, 1))) (by decide)) <|
  zcons (a := (91, zi_qld 6 92)) (zs_qld (M := 104) (pc := 91) (t := 6) rfl (zd_eq zk104 (by decide +kernel : decode cX6_count 91 = .ok (.aaload, 1)))) <|
  zcons (a := (92, zi_gi 3 1 95)) (zs_gi (M := 104) (pc := 92) (n := 0) (ci := 3) (k := 1) (C := RX3) (T := TX3) (N := 3) (zd_eq zk104 (by decide +kernel : decode cX6_count 92 = .ok (.getfield 261, 3))) rfl (by decide) (by decide) zin_3 (zl_f zo104 zw_222)) <|
  zcons (a := (95, zi_k (.int (-1)) 96)) (zs_iconst (M := 104) (pc := 95) (zd_eq zk104 (by decide +kernel : decode cX6_count 95 = .ok (.iconst (-1), 1))) (by decide)) <|
  zcons (a := (96, zi_b2 (fun x y => ¬ x = y) 104 99)) (zs_icmpne (M := 104) (pc := 96) (zd_eq zk104 (by decide +kernel : decode cX6_count 96 = .ok (.if_icmp .ne 8, 3))) (by decide)) <|
  zcons (a := (99, zi_k (.int (-4)) 101)) (zs_bipush (M := 104) (pc := 99) (zd_eq zk104 (by decide +kernel : decode cX6_count 99 = .ok (.bipush (-4), 2))) (by decide)) <|
  zcons (a := (101, zi_go 113)) (zs_goto (M := 104) (pc := 101) (zd_eq zk104 (by decide +kernel : decode cX6_count 101 = .ok (.goto 12, 3))) (by decide)) <|
  zcons (a := (104, zi_al 0 105)) (zs_al_n (M := 104) (pc := 104) (zd_eq zk104 (by decide +kernel : decode cX6_count 104 = .ok (.aload_n 0, 1)))) <|
  zcons (a := (105, zi_gr 6 12 108)) (zs_gr (M := 104) (pc := 105) (n := 0) (ci := 6) (k := 12) (C := RX6) (T := TX6) (N := 14) (zd_eq zk104 (by decide +kernel : decode cX6_count 105 = .ok (.getfield 62, 3))) rfl (by decide) (by decide) zin_6 (zl_f zo104 zw_245)) <|
  zcons (a := (108, zi_k (.int 0) 109)) (zs_iconst (M := 104) (pc := 108) (zd_eq zk104 (by decide +kernel : decode cX6_count 108 = .ok (.iconst 0, 1))) (by decide)) <|
  zcons (a := (109, zi_qld 6 110)) (zs_qld (M := 104) (pc := 109) (t := 6) rfl (zd_eq zk104 (by decide +kernel : decode cX6_count 109 = .ok (.aaload, 1)))) <|
  zcons (a := (110, zi_gi 3 2 113)) (zs_gi (M := 104) (pc := 110) (n := 0) (ci := 3) (k := 2) (C := RX3) (T := TX3) (N := 3) (zd_eq zk104 (by decide +kernel : decode cX6_count 110 = .ok (.getfield 277, 3))) rfl (by decide) (by decide) zin_3 (zl_f zo104 zw_224)) <|
  zcons (a := (113, zi_ri)) (zs_ri (M := 104) (pc := 113) (zd_eq zk104 (by decide +kernel : decode cX6_count 113 = .ok (.ireturn, 1))) rfl) <|
  zcons (a := (114, zi_al 0 115)) (zs_al_n (M := 104) (pc := 114) (zd_eq zk104 (by decide +kernel : decode cX6_count 114 = .ok (.aload_n 0, 1)))) <|
  zcons (a := (115, zi_gr 6 0 118)) (zs_gr (M := 104) (pc := 115) (n := 0) (ci := 6) (k := 0) (C := RX6) (T := TX6) (N := 14) (zd_eq zk104 (by decide +kernel : decode cX6_count 115 = .ok (.getfield 10, 3))) rfl (by decide) (by decide) zin_6 (zl_f zo104 zw_233)) <|
  zcons (a := (118, zi_gr 1 1 121)) (zs_gr (M := 104) (pc := 118) (n := 0) (ci := 1) (k := 1) (C := RX1) (T := TX1) (N := 4) (zd_eq zk104 (by decide +kernel : decode cX6_count 118 = .ok (.getfield 141, 3))) rfl (by decide) (by decide) zin_1 (zl_f zo104 zw_126)) <|
  zcons (a := (121, zi_cs 107 1 124 1)) (zs_cs (M := 104) (pc := 121) (M' := 107) (k := 1) (kd := 1) (zd_eq zk104 (by decide +kernel : decode cX6_count 121 = .ok (.invokestatic 278, 3))) zWd107 (zl_m zo104 zy107 zw_787) (zl_s zy107 zw_788)) <|
  zcons (a := (124, zi_ri)) (zs_ri (M := 104) (pc := 124) (zd_eq zk104 (by decide +kernel : decode cX6_count 124 = .ok (.ireturn, 1))) rfl) <| znil
theorem zS104_2 : ∀ q ∈ zm_c104_2, zm_Snd 104 q.1 q.2 :=
  zcons (a := (125, zi_al 0 126)) (zs_al_n (M := 104) (pc := 125) (zd_eq zk104 (by decide +kernel : decode cX6_count 125 = .ok (.aload_n 0, 1)))) <|
  zcons (a := (126, zi_gr 6 0 129)) (zs_gr (M := 104) (pc := 126) (n := 0) (ci := 6) (k := 0) (C := RX6) (T := TX6) (N := 14) (zd_eq zk104 (by decide +kernel : decode cX6_count 126 = .ok (.getfield 10, 3))) rfl (by decide) (by decide) zin_6 (zl_f zo104 zw_233)) <|
  zcons (a := (129, zi_gr 1 2 132)) (zs_gr (M := 104) (pc := 129) (n := 0) (ci := 1) (k := 2) (C := RX1) (T := TX1) (N := 4) (zd_eq zk104 (by decide +kernel : decode cX6_count 129 = .ok (.getfield 151, 3))) rfl (by decide) (by decide) zin_1 (zl_f zo104 zw_129)) <|
  zcons (a := (132, zi_cs 107 1 135 1)) (zs_cs (M := 104) (pc := 132) (M' := 107) (k := 1) (kd := 1) (zd_eq zk104 (by decide +kernel : decode cX6_count 132 = .ok (.invokestatic 278, 3))) zWd107 (zl_m zo104 zy107 zw_787) (zl_s zy107 zw_788)) <|
  zcons (a := (135, zi_ri)) (zs_ri (M := 104) (pc := 135) (zd_eq zk104 (by decide +kernel : decode cX6_count 135 = .ok (.ireturn, 1))) rfl) <|
  zcons (a := (136, zi_k (.int (-1)) 137)) (zs_iconst (M := 104) (pc := 136) (zd_eq zk104 (by decide +kernel : decode cX6_count 136 = .ok (.iconst (-1), 1))) (by decide)) <|
  zcons (a := (137, zi_ri)) (zs_ri (M := 104) (pc := 137) (zd_eq zk104 (by decide +kernel : decode cX6_count 137 = .ok (.ireturn, 1))) rfl) <| znil
theorem zS104 : ∀ pc, zm_Snd 104 pc (zm_lk2 zm_c104 pc) := zlk2 (zcons2 zS104_0 (zcons2 zS104_1 (zcons2 zS104_2 (znil2))))
theorem zS105_0 : ∀ q ∈ zm_c105_0, zm_Snd 105 q.1 q.2 :=
  zcons (a := (0, zi_il 0 1)) (zs_il_n (M := 105) (pc := 0) (zd_eq zk105 (by decide +kernel : decode cX6_within 0 = .ok (.iload_n 0, 1)))) <|
  zcons (a := (1, zi_b1 (fun x => x < 0) 13 4)) (zs_iflt (M := 105) (pc := 1) (zd_eq zk105 (by decide +kernel : decode cX6_within 1 = .ok (.ifCond .lt 12, 3))) (by decide)) <|
  zcons (a := (4, zi_il 0 5)) (zs_il_n (M := 105) (pc := 4) (zd_eq zk105 (by decide +kernel : decode cX6_within 4 = .ok (.iload_n 0, 1)))) <|
  zcons (a := (5, zi_il 1 6)) (zs_il_n (M := 105) (pc := 5) (zd_eq zk105 (by decide +kernel : decode cX6_within 5 = .ok (.iload_n 1, 1)))) <|
  zcons (a := (6, zi_b2 (fun x y => y < x) 13 9)) (zs_icmpgt (M := 105) (pc := 6) (zd_eq zk105 (by decide +kernel : decode cX6_within 6 = .ok (.if_icmp .gt 7, 3))) (by decide)) <|
  zcons (a := (9, zi_k (.int 1) 10)) (zs_iconst (M := 105) (pc := 9) (zd_eq zk105 (by decide +kernel : decode cX6_within 9 = .ok (.iconst 1, 1))) (by decide)) <|
  zcons (a := (10, zi_go 14)) (zs_goto (M := 105) (pc := 10) (zd_eq zk105 (by decide +kernel : decode cX6_within 10 = .ok (.goto 4, 3))) (by decide)) <|
  zcons (a := (13, zi_k (.int 0) 14)) (zs_iconst (M := 105) (pc := 13) (zd_eq zk105 (by decide +kernel : decode cX6_within 13 = .ok (.iconst 0, 1))) (by decide)) <|
  zcons (a := (14, zi_rz)) (zs_rz (M := 105) (pc := 14) (zd_eq zk105 (by decide +kernel : decode cX6_within 14 = .ok (.ireturn, 1))) rfl) <| znil
theorem zS105 : ∀ pc, zm_Snd 105 pc (zm_lk2 zm_c105 pc) := zlk2 (zcons2 zS105_0 (znil2))
theorem zS106_0 : ∀ q ∈ zm_c106_0, zm_Snd 106 q.1 q.2 :=
  zcons (a := (0, zi_il 1 1)) (zs_il_n (M := 106) (pc := 0) (zd_eq zk106 (by decide +kernel : decode cX6_isFigure 0 = .ok (.iload_n 1, 1)))) <|
  zcons (a := (1, zi_b1 (fun x => x < 0) 22 4)) (zs_iflt (M := 106) (pc := 1) (zd_eq zk106 (by decide +kernel : decode cX6_isFigure 1 = .ok (.ifCond .lt 21, 3))) (by decide)) <|
  zcons (a := (4, zi_il 1 5)) (zs_il_n (M := 106) (pc := 4) (zd_eq zk106 (by decide +kernel : decode cX6_isFigure 4 = .ok (.iload_n 1, 1)))) <|
  zcons (a := (5, zi_al 0 6)) (zs_al_n (M := 106) (pc := 5) (zd_eq zk106 (by decide +kernel : decode cX6_isFigure 5 = .ok (.aload_n 0, 1)))) <|
  zcons (a := (6, zi_gr 6 0 9)) (zs_gr (M := 106) (pc := 6) (n := 0) (ci := 6) (k := 0) (C := RX6) (T := TX6) (N := 14) (zd_eq zk106 (by decide +kernel : decode cX6_isFigure 6 = .ok (.getfield 10, 3))) rfl (by decide) (by decide) zin_6 (zl_f zo106 zw_233)) <|
  zcons (a := (9, zi_gr 1 0 12)) (zs_gr (M := 106) (pc := 9) (n := 0) (ci := 1) (k := 0) (C := RX1) (T := TX1) (N := 4) (zd_eq zk106 (by decide +kernel : decode cX6_isFigure 9 = .ok (.getfield 110, 3))) rfl (by decide) (by decide) zin_1 (zl_f zo106 zw_123)) <|
  zcons (a := (12, zi_gi 2 1 15)) (zs_gi (M := 106) (pc := 12) (n := 0) (ci := 2) (k := 1) (C := RX2) (T := TX2) (N := 2) (zd_eq zk106 (by decide +kernel : decode cX6_isFigure 12 = .ok (.getfield 114, 3))) rfl (by decide) (by decide) zin_2 (zl_f zo106 zw_112)) <|
  zcons (a := (15, zi_b2 (fun x y => y ≤ x) 22 18)) (zs_icmpge (M := 106) (pc := 15) (zd_eq zk106 (by decide +kernel : decode cX6_isFigure 15 = .ok (.if_icmp .ge 7, 3))) (by decide)) <|
  zcons (a := (18, zi_k (.int 1) 19)) (zs_iconst (M := 106) (pc := 18) (zd_eq zk106 (by decide +kernel : decode cX6_isFigure 18 = .ok (.iconst 1, 1))) (by decide)) <|
  zcons (a := (19, zi_go 23)) (zs_goto (M := 106) (pc := 19) (zd_eq zk106 (by decide +kernel : decode cX6_isFigure 19 = .ok (.goto 4, 3))) (by decide)) <|
  zcons (a := (22, zi_k (.int 0) 23)) (zs_iconst (M := 106) (pc := 22) (zd_eq zk106 (by decide +kernel : decode cX6_isFigure 22 = .ok (.iconst 0, 1))) (by decide)) <|
  zcons (a := (23, zi_rz)) (zs_rz (M := 106) (pc := 23) (zd_eq zk106 (by decide +kernel : decode cX6_isFigure 23 = .ok (.ireturn, 1))) rfl) <| znil
theorem zS106 : ∀ pc, zm_Snd 106 pc (zm_lk2 zm_c106 pc) := zlk2 (zcons2 zS106_0 (znil2))
theorem zS107_0 : ∀ q ∈ zm_c107_0, zm_Snd 107 q.1 q.2 :=
  zcons (a := (0, zi_k (.int 0) 1)) (zs_iconst (M := 107) (pc := 0) (zd_eq zk107 (by decide +kernel : decode cX6_sum 0 = .ok (.iconst 0, 1))) (by decide)) <|
  zcons (a := (1, zi_is 1 2)) (zs_is_n (M := 107) (pc := 1) (zd_eq zk107 (by decide +kernel : decode cX6_sum 1 = .ok (.istore_n 1, 1))) (by decide +kernel) (by decide +kernel)) <|
  zcons (a := (2, zi_al 0 3)) (zs_al_n (M := 107) (pc := 2) (zd_eq zk107 (by decide +kernel : decode cX6_sum 2 = .ok (.aload_n 0, 1)))) <|
  zcons (a := (3, zi_as 2 4)) (zs_as_n (M := 107) (pc := 3) (zd_eq zk107 (by decide +kernel : decode cX6_sum 3 = .ok (.astore_n 2, 1))) (by decide +kernel) (by decide +kernel)) <|
  zcons (a := (4, zi_al 2 5)) (zs_al_n (M := 107) (pc := 4) (zd_eq zk107 (by decide +kernel : decode cX6_sum 4 = .ok (.aload_n 2, 1)))) <|
  zcons (a := (5, zi_len 6)) (zs_len (M := 107) (pc := 5) (zd_eq zk107 (by decide +kernel : decode cX6_sum 5 = .ok (.arraylength, 1)))) <|
  zcons (a := (6, zi_is 3 7)) (zs_is_n (M := 107) (pc := 6) (zd_eq zk107 (by decide +kernel : decode cX6_sum 6 = .ok (.istore_n 3, 1))) (by decide +kernel) (by decide +kernel)) <|
  zcons (a := (7, zi_k (.int 0) 8)) (zs_iconst (M := 107) (pc := 7) (zd_eq zk107 (by decide +kernel : decode cX6_sum 7 = .ok (.iconst 0, 1))) (by decide)) <|
  zcons (a := (8, zi_is 4 10)) (zs_is_w (M := 107) (pc := 8) (zd_eq zk107 (by decide +kernel : decode cX6_sum 8 = .ok (.istore 4, 2))) (by decide +kernel) (by decide +kernel)) <|
  zcons (a := (10, zi_il 4 12)) (zs_il_w (M := 107) (pc := 10) (zd_eq zk107 (by decide +kernel : decode cX6_sum 10 = .ok (.iload 4, 2)))) <|
  zcons (a := (12, zi_il 3 13)) (zs_il_n (M := 107) (pc := 12) (zd_eq zk107 (by decide +kernel : decode cX6_sum 12 = .ok (.iload_n 3, 1)))) <|
  zcons (a := (13, zi_b2 (fun x y => y ≤ x) 33 16)) (zs_icmpge (M := 107) (pc := 13) (zd_eq zk107 (by decide +kernel : decode cX6_sum 13 = .ok (.if_icmp .ge 20, 3))) (by decide)) <|
  zcons (a := (16, zi_al 2 17)) (zs_al_n (M := 107) (pc := 16) (zd_eq zk107 (by decide +kernel : decode cX6_sum 16 = .ok (.aload_n 2, 1)))) <|
  zcons (a := (17, zi_il 4 19)) (zs_il_w (M := 107) (pc := 17) (zd_eq zk107 (by decide +kernel : decode cX6_sum 17 = .ok (.iload 4, 2)))) <|
  zcons (a := (19, zi_ald 0 20)) (zs_iald (M := 107) (pc := 19) (zd_eq zk107 (by decide +kernel : decode cX6_sum 19 = .ok (.iaload, 1)))) <|
  zcons (a := (20, zi_is 5 22)) (zs_is_w (M := 107) (pc := 20) (zd_eq zk107 (by decide +kernel : decode cX6_sum 20 = .ok (.istore 5, 2))) (by decide +kernel) (by decide +kernel)) <|
  zcons (a := (22, zi_il 1 23)) (zs_il_n (M := 107) (pc := 22) (zd_eq zk107 (by decide +kernel : decode cX6_sum 22 = .ok (.iload_n 1, 1)))) <|
  zcons (a := (23, zi_il 5 25)) (zs_il_w (M := 107) (pc := 23) (zd_eq zk107 (by decide +kernel : decode cX6_sum 23 = .ok (.iload 5, 2)))) <|
  zcons (a := (25, zi_bin (· + ·) 26)) (zs_iadd (M := 107) (pc := 25) (zd_eq zk107 (by decide +kernel : decode cX6_sum 25 = .ok (.iadd, 1)))) <|
  zcons (a := (26, zi_is 1 27)) (zs_is_n (M := 107) (pc := 26) (zd_eq zk107 (by decide +kernel : decode cX6_sum 26 = .ok (.istore_n 1, 1))) (by decide +kernel) (by decide +kernel)) <|
  zcons (a := (27, zi_inc 4 1 30)) (zs_inc (M := 107) (pc := 27) (zd_eq zk107 (by decide +kernel : decode cX6_sum 27 = .ok (.iinc 4 1, 3))) (by decide) (by decide +kernel) (by decide +kernel)) <|
  zcons (a := (30, zi_go 10)) (zs_goto (M := 107) (pc := 30) (zd_eq zk107 (by decide +kernel : decode cX6_sum 30 = .ok (.goto (-20), 3))) (by decide)) <|
  zcons (a := (33, zi_il 1 34)) (zs_il_n (M := 107) (pc := 33) (zd_eq zk107 (by decide +kernel : decode cX6_sum 33 = .ok (.iload_n 1, 1)))) <|
  zcons (a := (34, zi_ri)) (zs_ri (M := 107) (pc := 34) (zd_eq zk107 (by decide +kernel : decode cX6_sum 34 = .ok (.ireturn, 1))) rfl) <| znil
theorem zS107 : ∀ pc, zm_Snd 107 pc (zm_lk2 zm_c107 pc) := zlk2 (zcons2 zS107_0 (znil2))
theorem zS108_0 : ∀ q ∈ zm_c108_0, zm_Snd 108 q.1 q.2 :=
  zcons (a := (0, zi_il 0 1)) (zs_il_n (M := 108) (pc := 0) (zd_eq zk108 (by decide +kernel : decode cX6_chosen 0 = .ok (.iload_n 0, 1)))) <|
  zcons (a := (1, zi_k (.int (-4)) 3)) (zs_bipush (M := 108) (pc := 1) (zd_eq zk108 (by decide +kernel : decode cX6_chosen 1 = .ok (.bipush (-4), 2))) (by decide)) <|
  zcons (a := (3, zi_b2 (fun x y => x = y) 10 6)) (zs_icmpeq (M := 108) (pc := 3) (zd_eq zk108 (by decide +kernel : decode cX6_chosen 3 = .ok (.if_icmp .eq 7, 3))) (by decide)) <|
  zcons (a := (6, zi_il 2 7)) (zs_il_n (M := 108) (pc := 6) (zd_eq zk108 (by decide +kernel : decode cX6_chosen 6 = .ok (.iload_n 2, 1)))) <|
  zcons (a := (7, zi_b1 (fun x => ¬ x = 0) 14 10)) (zs_ifne (M := 108) (pc := 7) (zd_eq zk108 (by decide +kernel : decode cX6_chosen 7 = .ok (.ifCond .ne 7, 3))) (by decide)) <|
  zcons (a := (10, zi_il 0 11)) (zs_il_n (M := 108) (pc := 10) (zd_eq zk108 (by decide +kernel : decode cX6_chosen 10 = .ok (.iload_n 0, 1)))) <|
  zcons (a := (11, zi_go 15)) (zs_goto (M := 108) (pc := 11) (zd_eq zk108 (by decide +kernel : decode cX6_chosen 11 = .ok (.goto 4, 3))) (by decide)) <|
  zcons (a := (14, zi_il 1 15)) (zs_il_n (M := 108) (pc := 14) (zd_eq zk108 (by decide +kernel : decode cX6_chosen 14 = .ok (.iload_n 1, 1)))) <|
  zcons (a := (15, zi_ri)) (zs_ri (M := 108) (pc := 15) (zd_eq zk108 (by decide +kernel : decode cX6_chosen 15 = .ok (.ireturn, 1))) rfl) <| znil
theorem zS108 : ∀ pc, zm_Snd 108 pc (zm_lk2 zm_c108 pc) := zlk2 (zcons2 zS108_0 (znil2))
theorem zS109_0 : ∀ q ∈ zm_c109_0, zm_Snd 109 q.1 q.2 :=
  zcons (a := (0, zi_ll 2 1)) (zs_ll_n (M := 109) (pc := 0) (zd_eq zk109 (by decide +kernel : decode cX6_fraction 0 = .ok (.lload_n 2, 1)))) <|
  zcons (a := (1, zi_ls 5 3)) (zs_ls_w (M := 109) (pc := 1) (zd_eq zk109 (by decide +kernel : decode cX6_fraction 1 = .ok (.lstore 5, 2))) (by decide +kernel) (by decide +kernel) (by decide +kernel)) <|
  zcons (a := (3, zi_ll 0 4)) (zs_ll_n (M := 109) (pc := 3) (zd_eq zk109 (by decide +kernel : decode cX6_fraction 3 = .ok (.lload_n 0, 1)))) <|
  zcons (a := (4, zi_ls 7 6)) (zs_ls_w (M := 109) (pc := 4) (zd_eq zk109 (by decide +kernel : decode cX6_fraction 4 = .ok (.lstore 7, 2))) (by decide +kernel) (by decide +kernel) (by decide +kernel)) <|
  zcons (a := (6, zi_k (.int 0) 7)) (zs_iconst (M := 109) (pc := 6) (zd_eq zk109 (by decide +kernel : decode cX6_fraction 6 = .ok (.iconst 0, 1))) (by decide)) <|
  zcons (a := (7, zi_is 9 9)) (zs_is_w (M := 109) (pc := 7) (zd_eq zk109 (by decide +kernel : decode cX6_fraction 7 = .ok (.istore 9, 2))) (by decide +kernel) (by decide +kernel)) <|
  zcons (a := (9, zi_il 9 11)) (zs_il_w (M := 109) (pc := 9) (zd_eq zk109 (by decide +kernel : decode cX6_fraction 9 = .ok (.iload 9, 2)))) <|
  zcons (a := (11, zi_k (.int 200) 14)) (zs_sipush (M := 109) (pc := 11) (zd_eq zk109 (by decide +kernel : decode cX6_fraction 11 = .ok (.sipush 200, 3))) (by decide)) <|
  zcons (a := (14, zi_b2 (fun x y => y ≤ x) 45 17)) (zs_icmpge (M := 109) (pc := 14) (zd_eq zk109 (by decide +kernel : decode cX6_fraction 14 = .ok (.if_icmp .ge 31, 3))) (by decide)) <|
  zcons (a := (17, zi_ll 7 19)) (zs_ll_w (M := 109) (pc := 17) (zd_eq zk109 (by decide +kernel : decode cX6_fraction 17 = .ok (.lload 7, 2)))) <|
  zcons (a := (19, zi_k (.long 0) 20)) (zs_lconst (M := 109) (pc := 19) (zd_eq zk109 (by decide +kernel : decode cX6_fraction 19 = .ok (.lconst 0, 1))) (by decide)) <|
  zcons (a := (20, zi_lcmp 21)) (zs_lcmp (M := 109) (pc := 20) (zd_eq zk109 (by decide +kernel : decode cX6_fraction 20 = .ok (.lcmp, 1)))) <|
  zcons (a := (21, zi_b1 (fun x => x = 0) 45 24)) (zs_ifeq (M := 109) (pc := 21) (zd_eq zk109 (by decide +kernel : decode cX6_fraction 21 = .ok (.ifCond .eq 24, 3))) (by decide)) <|
  zcons (a := (24, zi_ll 5 26)) (zs_ll_w (M := 109) (pc := 24) (zd_eq zk109 (by decide +kernel : decode cX6_fraction 24 = .ok (.lload 5, 2)))) <|
  zcons (a := (26, zi_ll 7 28)) (zs_ll_w (M := 109) (pc := 26) (zd_eq zk109 (by decide +kernel : decode cX6_fraction 26 = .ok (.lload 7, 2)))) <|
  zcons (a := (28, zi_lrem 29)) (zs_lrem (M := 109) (pc := 28) (zd_eq zk109 (by decide +kernel : decode cX6_fraction 28 = .ok (.lrem, 1)))) <|
  zcons (a := (29, zi_ls 10 31)) (zs_ls_w (M := 109) (pc := 29) (zd_eq zk109 (by decide +kernel : decode cX6_fraction 29 = .ok (.lstore 10, 2))) (by decide +kernel) (by decide +kernel) (by decide +kernel)) <|
  zcons (a := (31, zi_ll 7 33)) (zs_ll_w (M := 109) (pc := 31) (zd_eq zk109 (by decide +kernel : decode cX6_fraction 31 = .ok (.lload 7, 2)))) <|
  zcons (a := (33, zi_ls 5 35)) (zs_ls_w (M := 109) (pc := 33) (zd_eq zk109 (by decide +kernel : decode cX6_fraction 33 = .ok (.lstore 5, 2))) (by decide +kernel) (by decide +kernel) (by decide +kernel)) <|
  zcons (a := (35, zi_ll 10 37)) (zs_ll_w (M := 109) (pc := 35) (zd_eq zk109 (by decide +kernel : decode cX6_fraction 35 = .ok (.lload 10, 2)))) <|
  zcons (a := (37, zi_ls 7 39)) (zs_ls_w (M := 109) (pc := 37) (zd_eq zk109 (by decide +kernel : decode cX6_fraction 37 = .ok (.lstore 7, 2))) (by decide +kernel) (by decide +kernel) (by decide +kernel)) <|
  zcons (a := (39, zi_inc 9 1 42)) (zs_inc (M := 109) (pc := 39) (zd_eq zk109 (by decide +kernel : decode cX6_fraction 39 = .ok (.iinc 9 1, 3))) (by decide) (by decide +kernel) (by decide +kernel)) <|
  zcons (a := (42, zi_go 9)) (zs_goto (M := 109) (pc := 42) (zd_eq zk109 (by decide +kernel : decode cX6_fraction 42 = .ok (.goto (-33), 3))) (by decide)) <|
  zcons (a := (45, zi_ll 5 47)) (zs_ll_w (M := 109) (pc := 45) (zd_eq zk109 (by decide +kernel : decode cX6_fraction 45 = .ok (.lload 5, 2)))) <| znil
theorem zS109_1 : ∀ q ∈ zm_c109_1, zm_Snd 109 q.1 q.2 :=
  zcons (a := (47, zi_k (.long 0) 48)) (zs_lconst (M := 109) (pc := 47) (zd_eq zk109 (by decide +kernel : decode cX6_fraction 47 = .ok (.lconst 0, 1))) (by decide)) <|
  zcons (a := (48, zi_lcmp 49)) (zs_lcmp (M := 109) (pc := 48) (zd_eq zk109 (by decide +kernel : decode cX6_fraction 48 = .ok (.lcmp, 1)))) <|
  zcons (a := (49, zi_b1 (fun x => ¬ x = 0) 56 52)) (zs_ifne (M := 109) (pc := 49) (zd_eq zk109 (by decide +kernel : decode cX6_fraction 49 = .ok (.ifCond .ne 7, 3))) (by decide)) <|
  zcons (a := (52, zi_k (.long (-1)) 55)) (zs_ldc2 (M := 109) (pc := 52) (zd_eq zk109 (by decide +kernel : decode cX6_fraction 52 = .ok (.ldc2_w 202, 3))) (zl_k2 zo109 zw_602)) <|
  zcons (a := (55, zi_rl)) (zs_rl (M := 109) (pc := 55) (zd_eq zk109 (by decide +kernel : decode cX6_fraction 55 = .ok (.lreturn, 1))) rfl) <|
  zcons (a := (56, zi_il 4 58)) (zs_il_w (M := 109) (pc := 56) (zd_eq zk109 (by decide +kernel : decode cX6_fraction 56 = .ok (.iload 4, 2)))) <|
  zcons (a := (58, zi_b1 (fun x => ¬ x = 0) 68 61)) (zs_ifne (M := 109) (pc := 58) (zd_eq zk109 (by decide +kernel : decode cX6_fraction 58 = .ok (.ifCond .ne 10, 3))) (by decide)) <|
  zcons (a := (61, zi_ll 0 62)) (zs_ll_n (M := 109) (pc := 61) (zd_eq zk109 (by decide +kernel : decode cX6_fraction 61 = .ok (.lload_n 0, 1)))) <|
  zcons (a := (62, zi_ll 5 64)) (zs_ll_w (M := 109) (pc := 62) (zd_eq zk109 (by decide +kernel : decode cX6_fraction 62 = .ok (.lload 5, 2)))) <|
  zcons (a := (64, zi_ldiv 65)) (zs_ldiv (M := 109) (pc := 64) (zd_eq zk109 (by decide +kernel : decode cX6_fraction 64 = .ok (.ldiv, 1)))) <|
  zcons (a := (65, zi_go 72)) (zs_goto (M := 109) (pc := 65) (zd_eq zk109 (by decide +kernel : decode cX6_fraction 65 = .ok (.goto 7, 3))) (by decide)) <|
  zcons (a := (68, zi_ll 2 69)) (zs_ll_n (M := 109) (pc := 68) (zd_eq zk109 (by decide +kernel : decode cX6_fraction 68 = .ok (.lload_n 2, 1)))) <|
  zcons (a := (69, zi_ll 5 71)) (zs_ll_w (M := 109) (pc := 69) (zd_eq zk109 (by decide +kernel : decode cX6_fraction 69 = .ok (.lload 5, 2)))) <|
  zcons (a := (71, zi_ldiv 72)) (zs_ldiv (M := 109) (pc := 71) (zd_eq zk109 (by decide +kernel : decode cX6_fraction 71 = .ok (.ldiv, 1)))) <|
  zcons (a := (72, zi_rl)) (zs_rl (M := 109) (pc := 72) (zd_eq zk109 (by decide +kernel : decode cX6_fraction 72 = .ok (.lreturn, 1))) rfl) <| znil
theorem zS109 : ∀ pc, zm_Snd 109 pc (zm_lk2 zm_c109 pc) := zlk2 (zcons2 zS109_0 (zcons2 zS109_1 (znil2)))
theorem zS110_0 : ∀ q ∈ zm_c110_0, zm_Snd 110 q.1 q.2 :=
  zcons (a := (0, zi_il 1 1)) (zs_il_n (M := 110) (pc := 0) (zd_eq zk110 (by decide +kernel : decode cX6_rollUp 0 = .ok (.iload_n 1, 1)))) <|
  zcons (a := (1, zi_k (.int 3) 2)) (zs_iconst (M := 110) (pc := 1) (zd_eq zk110 (by decide +kernel : decode cX6_rollUp 1 = .ok (.iconst 3, 1))) (by decide)) <|
  zcons (a := (2, zi_cs 105 2 5 1)) (zs_cs (M := 110) (pc := 2) (M' := 105) (k := 2) (kd := 1) (zd_eq zk110 (by decide +kernel : decode cX6_rollUp 2 = .ok (.invokestatic 67, 3))) zWd105 (zl_m zo110 zy105 zw_280) (zl_s zy105 zw_281)) <|
  zcons (a := (5, zi_b1 (fun x => x = 0) 17 8)) (zs_ifeq (M := 110) (pc := 5) (zd_eq zk110 (by decide +kernel : decode cX6_rollUp 5 = .ok (.ifCond .eq 12, 3))) (by decide)) <|
  zcons (a := (8, zi_il 2 9)) (zs_il_n (M := 110) (pc := 8) (zd_eq zk110 (by decide +kernel : decode cX6_rollUp 8 = .ok (.iload_n 2, 1)))) <|
  zcons (a := (9, zi_k (.int 99) 11)) (zs_bipush (M := 110) (pc := 9) (zd_eq zk110 (by decide +kernel : decode cX6_rollUp 9 = .ok (.bipush 99, 2))) (by decide)) <|
  zcons (a := (11, zi_cs 105 2 14 1)) (zs_cs (M := 110) (pc := 11) (M' := 105) (k := 2) (kd := 1) (zd_eq zk110 (by decide +kernel : decode cX6_rollUp 11 = .ok (.invokestatic 67, 3))) zWd105 (zl_m zo110 zy105 zw_280) (zl_s zy105 zw_281)) <|
  zcons (a := (14, zi_b1 (fun x => ¬ x = 0) 19 17)) (zs_ifne (M := 110) (pc := 14) (zd_eq zk110 (by decide +kernel : decode cX6_rollUp 14 = .ok (.ifCond .ne 5, 3))) (by decide)) <|
  zcons (a := (17, zi_k (.int (-1)) 18)) (zs_iconst (M := 110) (pc := 17) (zd_eq zk110 (by decide +kernel : decode cX6_rollUp 17 = .ok (.iconst (-1), 1))) (by decide)) <|
  zcons (a := (18, zi_ri)) (zs_ri (M := 110) (pc := 18) (zd_eq zk110 (by decide +kernel : decode cX6_rollUp 18 = .ok (.ireturn, 1))) rfl) <|
  zcons (a := (19, zi_al 0 20)) (zs_al_n (M := 110) (pc := 19) (zd_eq zk110 (by decide +kernel : decode cX6_rollUp 19 = .ok (.aload_n 0, 1)))) <|
  zcons (a := (20, zi_gr 6 0 23)) (zs_gr (M := 110) (pc := 20) (n := 0) (ci := 6) (k := 0) (C := RX6) (T := TX6) (N := 14) (zd_eq zk110 (by decide +kernel : decode cX6_rollUp 20 = .ok (.getfield 10, 3))) rfl (by decide) (by decide) zin_6 (zl_f zo110 zw_233)) <|
  zcons (a := (23, zi_gr 1 0 26)) (zs_gr (M := 110) (pc := 23) (n := 0) (ci := 1) (k := 0) (C := RX1) (T := TX1) (N := 4) (zd_eq zk110 (by decide +kernel : decode cX6_rollUp 23 = .ok (.getfield 110, 3))) rfl (by decide) (by decide) zin_1 (zl_f zo110 zw_123)) <|
  zcons (a := (26, zi_gi 2 1 29)) (zs_gi (M := 110) (pc := 26) (n := 0) (ci := 2) (k := 1) (C := RX2) (T := TX2) (N := 2) (zd_eq zk110 (by decide +kernel : decode cX6_rollUp 26 = .ok (.getfield 114, 3))) rfl (by decide) (by decide) zin_2 (zl_f zo110 zw_112)) <|
  zcons (a := (29, zi_k (.int 5) 30)) (zs_iconst (M := 110) (pc := 29) (zd_eq zk110 (by decide +kernel : decode cX6_rollUp 29 = .ok (.iconst 5, 1))) (by decide)) <|
  zcons (a := (30, zi_b2 (fun x y => x < y) 36 33)) (zs_icmplt (M := 110) (pc := 30) (zd_eq zk110 (by decide +kernel : decode cX6_rollUp 30 = .ok (.if_icmp .lt 6, 3))) (by decide)) <|
  zcons (a := (33, zi_k (.int (-3)) 35)) (zs_bipush (M := 110) (pc := 33) (zd_eq zk110 (by decide +kernel : decode cX6_rollUp 33 = .ok (.bipush (-3), 2))) (by decide)) <|
  zcons (a := (35, zi_ri)) (zs_ri (M := 110) (pc := 35) (zd_eq zk110 (by decide +kernel : decode cX6_rollUp 35 = .ok (.ireturn, 1))) rfl) <|
  zcons (a := (36, zi_al 0 37)) (zs_al_n (M := 110) (pc := 36) (zd_eq zk110 (by decide +kernel : decode cX6_rollUp 36 = .ok (.aload_n 0, 1)))) <|
  zcons (a := (37, zi_gr 6 0 40)) (zs_gr (M := 110) (pc := 37) (n := 0) (ci := 6) (k := 0) (C := RX6) (T := TX6) (N := 14) (zd_eq zk110 (by decide +kernel : decode cX6_rollUp 37 = .ok (.getfield 10, 3))) rfl (by decide) (by decide) zin_6 (zl_f zo110 zw_233)) <|
  zcons (a := (40, zi_gr 1 0 43)) (zs_gr (M := 110) (pc := 40) (n := 0) (ci := 1) (k := 0) (C := RX1) (T := TX1) (N := 4) (zd_eq zk110 (by decide +kernel : decode cX6_rollUp 40 = .ok (.getfield 110, 3))) rfl (by decide) (by decide) zin_1 (zl_f zo110 zw_123)) <|
  zcons (a := (43, zi_il 1 44)) (zs_il_n (M := 110) (pc := 43) (zd_eq zk110 (by decide +kernel : decode cX6_rollUp 43 = .ok (.iload_n 1, 1)))) <|
  zcons (a := (44, zi_il 2 45)) (zs_il_n (M := 110) (pc := 44) (zd_eq zk110 (by decide +kernel : decode cX6_rollUp 44 = .ok (.iload_n 2, 1)))) <|
  zcons (a := (45, zi_k (.int 20) 47)) (zs_bipush (M := 110) (pc := 45) (zd_eq zk110 (by decide +kernel : decode cX6_rollUp 45 = .ok (.bipush 20, 2))) (by decide)) <| znil
theorem zS110_1 : ∀ q ∈ zm_c110_1, zm_Snd 110 q.1 q.2 :=
  zcons (a := (47, zi_cv 20 3 2 50 0)) (zs_cv (M := 110) (pc := 47) (M' := 20) (k := 3) (kd := 0) (ci := 2) (q := (RX2, TX2, 2)) (zd_eq zk110 (by decide +kernel : decode cX6_rollUp 47 = .ok (.invokevirtual 282, 3))) zWd20 (zl_m zo110 zy20 zw_505) (zl_i zy20 zw_399) (zl_e zy20 zw_400) (by decide) rfl (by rw [zo20])) <|
  zcons (a := (50, zi_al 0 51)) (zs_al_n (M := 110) (pc := 50) (zd_eq zk110 (by decide +kernel : decode cX6_rollUp 50 = .ok (.aload_n 0, 1)))) <|
  zcons (a := (51, zi_gr 6 0 54)) (zs_gr (M := 110) (pc := 51) (n := 0) (ci := 6) (k := 0) (C := RX6) (T := TX6) (N := 14) (zd_eq zk110 (by decide +kernel : decode cX6_rollUp 51 = .ok (.getfield 10, 3))) rfl (by decide) (by decide) zin_6 (zl_f zo110 zw_233)) <|
  zcons (a := (54, zi_gr 1 0 57)) (zs_gr (M := 110) (pc := 54) (n := 0) (ci := 1) (k := 0) (C := RX1) (T := TX1) (N := 4) (zd_eq zk110 (by decide +kernel : decode cX6_rollUp 54 = .ok (.getfield 110, 3))) rfl (by decide) (by decide) zin_1 (zl_f zo110 zw_123)) <|
  zcons (a := (57, zi_gi 2 1 60)) (zs_gi (M := 110) (pc := 57) (n := 0) (ci := 2) (k := 1) (C := RX2) (T := TX2) (N := 2) (zd_eq zk110 (by decide +kernel : decode cX6_rollUp 57 = .ok (.getfield 114, 3))) rfl (by decide) (by decide) zin_2 (zl_f zo110 zw_112)) <|
  zcons (a := (60, zi_ri)) (zs_ri (M := 110) (pc := 60) (zd_eq zk110 (by decide +kernel : decode cX6_rollUp 60 = .ok (.ireturn, 1))) rfl) <| znil
theorem zS110 : ∀ pc, zm_Snd 110 pc (zm_lk2 zm_c110 pc) := zlk2 (zcons2 zS110_0 (zcons2 zS110_1 (znil2)))
theorem zS111_0 : ∀ q ∈ zm_c111_0, zm_Snd 111 q.1 q.2 :=
  zcons (a := (0, zi_k (.int 0) 1)) (zs_iconst (M := 111) (pc := 0) (zd_eq zk111 (by decide +kernel : decode cX6_daysTillProbeFalls 0 = .ok (.iconst 0, 1))) (by decide)) <|
  zcons (a := (1, zi_is 1 2)) (zs_is_n (M := 111) (pc := 1) (zd_eq zk111 (by decide +kernel : decode cX6_daysTillProbeFalls 1 = .ok (.istore_n 1, 1))) (by decide +kernel) (by decide +kernel)) <|
  zcons (a := (2, zi_il 1 3)) (zs_il_n (M := 111) (pc := 2) (zd_eq zk111 (by decide +kernel : decode cX6_daysTillProbeFalls 2 = .ok (.iload_n 1, 1)))) <|
  zcons (a := (3, zi_k (.int 60) 5)) (zs_bipush (M := 111) (pc := 3) (zd_eq zk111 (by decide +kernel : decode cX6_daysTillProbeFalls 3 = .ok (.bipush 60, 2))) (by decide)) <|
  zcons (a := (5, zi_b2 (fun x y => y < x) 64 8)) (zs_icmpgt (M := 111) (pc := 5) (zd_eq zk111 (by decide +kernel : decode cX6_daysTillProbeFalls 5 = .ok (.if_icmp .gt 59, 3))) (by decide)) <|
  zcons (a := (8, zi_al 0 9)) (zs_al_n (M := 111) (pc := 8) (zd_eq zk111 (by decide +kernel : decode cX6_daysTillProbeFalls 8 = .ok (.aload_n 0, 1)))) <|
  zcons (a := (9, zi_gr 6 2 12)) (zs_gr (M := 111) (pc := 9) (n := 0) (ci := 6) (k := 2) (C := RX6) (T := TX6) (N := 14) (zd_eq zk111 (by decide +kernel : decode cX6_daysTillProbeFalls 9 = .ok (.getfield 22, 3))) rfl (by decide) (by decide) zin_6 (zl_f zo111 zw_235)) <|
  zcons (a := (12, zi_cv 13 0 0 15 1)) (zs_cv (M := 111) (pc := 12) (M' := 13) (k := 0) (kd := 1) (ci := 0) (q := (RX0, TX0, 3)) (zd_eq zk111 (by decide +kernel : decode cX6_daysTillProbeFalls 12 = .ok (.invokevirtual 171, 3))) zWd13 (zl_m zo111 zy13 zw_510) (zl_i zy13 zw_439) (zl_e zy13 zw_440) (by decide) rfl (by rw [zo13])) <|
  zcons (a := (15, zi_b1 (fun x => ¬ x = 0) 20 18)) (zs_ifne (M := 111) (pc := 15) (zd_eq zk111 (by decide +kernel : decode cX6_daysTillProbeFalls 15 = .ok (.ifCond .ne 5, 3))) (by decide)) <|
  zcons (a := (18, zi_il 1 19)) (zs_il_n (M := 111) (pc := 18) (zd_eq zk111 (by decide +kernel : decode cX6_daysTillProbeFalls 18 = .ok (.iload_n 1, 1)))) <|
  zcons (a := (19, zi_ri)) (zs_ri (M := 111) (pc := 19) (zd_eq zk111 (by decide +kernel : decode cX6_daysTillProbeFalls 19 = .ok (.ireturn, 1))) rfl) <|
  zcons (a := (20, zi_al 0 21)) (zs_al_n (M := 111) (pc := 20) (zd_eq zk111 (by decide +kernel : decode cX6_daysTillProbeFalls 20 = .ok (.aload_n 0, 1)))) <|
  zcons (a := (21, zi_gr 6 0 24)) (zs_gr (M := 111) (pc := 21) (n := 0) (ci := 6) (k := 0) (C := RX6) (T := TX6) (N := 14) (zd_eq zk111 (by decide +kernel : decode cX6_daysTillProbeFalls 21 = .ok (.getfield 10, 3))) rfl (by decide) (by decide) zin_6 (zl_f zo111 zw_233)) <|
  zcons (a := (24, zi_gi 1 3 27)) (zs_gi (M := 111) (pc := 24) (n := 0) (ci := 1) (k := 3) (C := RX1) (T := TX1) (N := 4) (zd_eq zk111 (by decide +kernel : decode cX6_daysTillProbeFalls 24 = .ok (.getfield 117, 3))) rfl (by decide) (by decide) zin_1 (zl_f zo111 zw_131)) <|
  zcons (a := (27, zi_il 1 28)) (zs_il_n (M := 111) (pc := 27) (zd_eq zk111 (by decide +kernel : decode cX6_daysTillProbeFalls 27 = .ok (.iload_n 1, 1)))) <|
  zcons (a := (28, zi_bin (· + ·) 29)) (zs_iadd (M := 111) (pc := 28) (zd_eq zk111 (by decide +kernel : decode cX6_daysTillProbeFalls 28 = .ok (.iadd, 1)))) <|
  zcons (a := (29, zi_k (.int 7) 31)) (zs_bipush (M := 111) (pc := 29) (zd_eq zk111 (by decide +kernel : decode cX6_daysTillProbeFalls 29 = .ok (.bipush 7, 2))) (by decide)) <|
  zcons (a := (31, zi_rem 32)) (zs_irem (M := 111) (pc := 31) (zd_eq zk111 (by decide +kernel : decode cX6_daysTillProbeFalls 31 = .ok (.irem, 1)))) <|
  zcons (a := (32, zi_is 2 33)) (zs_is_n (M := 111) (pc := 32) (zd_eq zk111 (by decide +kernel : decode cX6_daysTillProbeFalls 32 = .ok (.istore_n 2, 1))) (by decide +kernel) (by decide +kernel)) <|
  zcons (a := (33, zi_al 0 34)) (zs_al_n (M := 111) (pc := 33) (zd_eq zk111 (by decide +kernel : decode cX6_daysTillProbeFalls 33 = .ok (.aload_n 0, 1)))) <|
  zcons (a := (34, zi_gr 6 2 37)) (zs_gr (M := 111) (pc := 34) (n := 0) (ci := 6) (k := 2) (C := RX6) (T := TX6) (N := 14) (zd_eq zk111 (by decide +kernel : decode cX6_daysTillProbeFalls 34 = .ok (.getfield 22, 3))) rfl (by decide) (by decide) zin_6 (zl_f zo111 zw_235)) <|
  zcons (a := (37, zi_al 0 38)) (zs_al_n (M := 111) (pc := 37) (zd_eq zk111 (by decide +kernel : decode cX6_daysTillProbeFalls 37 = .ok (.aload_n 0, 1)))) <|
  zcons (a := (38, zi_gr 6 0 41)) (zs_gr (M := 111) (pc := 38) (n := 0) (ci := 6) (k := 0) (C := RX6) (T := TX6) (N := 14) (zd_eq zk111 (by decide +kernel : decode cX6_daysTillProbeFalls 38 = .ok (.getfield 10, 3))) rfl (by decide) (by decide) zin_6 (zl_f zo111 zw_233)) <|
  zcons (a := (41, zi_gr 1 1 44)) (zs_gr (M := 111) (pc := 41) (n := 0) (ci := 1) (k := 1) (C := RX1) (T := TX1) (N := 4) (zd_eq zk111 (by decide +kernel : decode cX6_daysTillProbeFalls 41 = .ok (.getfield 141, 3))) rfl (by decide) (by decide) zin_1 (zl_f zo111 zw_126)) <| znil
theorem zS111_1 : ∀ q ∈ zm_c111_1, zm_Snd 111 q.1 q.2 :=
  zcons (a := (44, zi_il 2 45)) (zs_il_n (M := 111) (pc := 44) (zd_eq zk111 (by decide +kernel : decode cX6_daysTillProbeFalls 44 = .ok (.iload_n 2, 1)))) <|
  zcons (a := (45, zi_ald 0 46)) (zs_iald (M := 111) (pc := 45) (zd_eq zk111 (by decide +kernel : decode cX6_daysTillProbeFalls 45 = .ok (.iaload, 1)))) <|
  zcons (a := (46, zi_al 0 47)) (zs_al_n (M := 111) (pc := 46) (zd_eq zk111 (by decide +kernel : decode cX6_daysTillProbeFalls 46 = .ok (.aload_n 0, 1)))) <|
  zcons (a := (47, zi_gr 6 0 50)) (zs_gr (M := 111) (pc := 47) (n := 0) (ci := 6) (k := 0) (C := RX6) (T := TX6) (N := 14) (zd_eq zk111 (by decide +kernel : decode cX6_daysTillProbeFalls 47 = .ok (.getfield 10, 3))) rfl (by decide) (by decide) zin_6 (zl_f zo111 zw_233)) <|
  zcons (a := (50, zi_gr 1 2 53)) (zs_gr (M := 111) (pc := 50) (n := 0) (ci := 1) (k := 2) (C := RX1) (T := TX1) (N := 4) (zd_eq zk111 (by decide +kernel : decode cX6_daysTillProbeFalls 50 = .ok (.getfield 151, 3))) rfl (by decide) (by decide) zin_1 (zl_f zo111 zw_129)) <|
  zcons (a := (53, zi_il 2 54)) (zs_il_n (M := 111) (pc := 53) (zd_eq zk111 (by decide +kernel : decode cX6_daysTillProbeFalls 53 = .ok (.iload_n 2, 1)))) <|
  zcons (a := (54, zi_ald 0 55)) (zs_iald (M := 111) (pc := 54) (zd_eq zk111 (by decide +kernel : decode cX6_daysTillProbeFalls 54 = .ok (.iaload, 1)))) <|
  zcons (a := (55, zi_cv 17 2 0 58 0)) (zs_cv (M := 111) (pc := 55) (M' := 17) (k := 2) (kd := 0) (ci := 0) (q := (RX0, TX0, 3)) (zd_eq zk111 (by decide +kernel : decode cX6_daysTillProbeFalls 55 = .ok (.invokevirtual 286, 3))) zWd17 (zl_m zo111 zy17 zw_597) (zl_i zy17 zw_541) (zl_e zy17 zw_542) (by decide) rfl (by rw [zo17])) <|
  zcons (a := (58, zi_inc 1 1 61)) (zs_inc (M := 111) (pc := 58) (zd_eq zk111 (by decide +kernel : decode cX6_daysTillProbeFalls 58 = .ok (.iinc 1 1, 3))) (by decide) (by decide +kernel) (by decide +kernel)) <|
  zcons (a := (61, zi_go 2)) (zs_goto (M := 111) (pc := 61) (zd_eq zk111 (by decide +kernel : decode cX6_daysTillProbeFalls 61 = .ok (.goto (-59), 3))) (by decide)) <|
  zcons (a := (64, zi_k (.int 61) 66)) (zs_bipush (M := 111) (pc := 64) (zd_eq zk111 (by decide +kernel : decode cX6_daysTillProbeFalls 64 = .ok (.bipush 61, 2))) (by decide)) <|
  zcons (a := (66, zi_ri)) (zs_ri (M := 111) (pc := 66) (zd_eq zk111 (by decide +kernel : decode cX6_daysTillProbeFalls 66 = .ok (.ireturn, 1))) rfl) <| znil
theorem zS111 : ∀ pc, zm_Snd 111 pc (zm_lk2 zm_c111 pc) := zlk2 (zcons2 zS111_0 (zcons2 zS111_1 (znil2)))
theorem zS112_0 : ∀ q ∈ zm_c112_0, zm_Snd 112 q.1 q.2 :=
  zcons (a := (0, zi_k (.int 0) 1)) (zs_iconst (M := 112) (pc := 0) (zd_eq zk112 (by decide +kernel : decode cX6_longest 0 = .ok (.iconst 0, 1))) (by decide)) <|
  zcons (a := (1, zi_is 4 3)) (zs_is_w (M := 112) (pc := 1) (zd_eq zk112 (by decide +kernel : decode cX6_longest 1 = .ok (.istore 4, 2))) (by decide +kernel) (by decide +kernel)) <|
  zcons (a := (3, zi_k (.int (-1)) 4)) (zs_iconst (M := 112) (pc := 3) (zd_eq zk112 (by decide +kernel : decode cX6_longest 3 = .ok (.iconst (-1), 1))) (by decide)) <|
  zcons (a := (4, zi_is 5 6)) (zs_is_w (M := 112) (pc := 4) (zd_eq zk112 (by decide +kernel : decode cX6_longest 4 = .ok (.istore 5, 2))) (by decide +kernel) (by decide +kernel)) <|
  zcons (a := (6, zi_k (.int 0) 7)) (zs_iconst (M := 112) (pc := 6) (zd_eq zk112 (by decide +kernel : decode cX6_longest 6 = .ok (.iconst 0, 1))) (by decide)) <|
  zcons (a := (7, zi_is 6 9)) (zs_is_w (M := 112) (pc := 7) (zd_eq zk112 (by decide +kernel : decode cX6_longest 7 = .ok (.istore 6, 2))) (by decide +kernel) (by decide +kernel)) <|
  zcons (a := (9, zi_il 6 11)) (zs_il_w (M := 112) (pc := 9) (zd_eq zk112 (by decide +kernel : decode cX6_longest 9 = .ok (.iload 6, 2)))) <|
  zcons (a := (11, zi_k (.ref 1000001) 14)) (zs_most (M := 112) (pc := 11) (zd_eq zk112 (by decide +kernel : decode cX6_longest 11 = .ok (.getstatic 160, 3))) (zl_f zo112 zw_487)) <|
  zcons (a := (14, zi_il 2 15)) (zs_il_n (M := 112) (pc := 14) (zd_eq zk112 (by decide +kernel : decode cX6_longest 14 = .ok (.iload_n 2, 1)))) <|
  zcons (a := (15, zi_tld 16)) (zs_tld (M := 112) (pc := 15) (zd_eq zk112 (by decide +kernel : decode cX6_longest 15 = .ok (.iaload, 1)))) <|
  zcons (a := (16, zi_b2 (fun x y => y < x) 75 19)) (zs_icmpgt (M := 112) (pc := 16) (zd_eq zk112 (by decide +kernel : decode cX6_longest 16 = .ok (.if_icmp .gt 59, 3))) (by decide)) <|
  zcons (a := (19, zi_al 0 20)) (zs_al_n (M := 112) (pc := 19) (zd_eq zk112 (by decide +kernel : decode cX6_longest 19 = .ok (.aload_n 0, 1)))) <|
  zcons (a := (20, zi_gr 6 2 23)) (zs_gr (M := 112) (pc := 20) (n := 0) (ci := 6) (k := 2) (C := RX6) (T := TX6) (N := 14) (zd_eq zk112 (by decide +kernel : decode cX6_longest 20 = .ok (.getfield 22, 3))) rfl (by decide) (by decide) zin_6 (zl_f zo112 zw_235)) <|
  zcons (a := (23, zi_al 0 24)) (zs_al_n (M := 112) (pc := 23) (zd_eq zk112 (by decide +kernel : decode cX6_longest 23 = .ok (.aload_n 0, 1)))) <|
  zcons (a := (24, zi_gr 6 0 27)) (zs_gr (M := 112) (pc := 24) (n := 0) (ci := 6) (k := 0) (C := RX6) (T := TX6) (N := 14) (zd_eq zk112 (by decide +kernel : decode cX6_longest 24 = .ok (.getfield 10, 3))) rfl (by decide) (by decide) zin_6 (zl_f zo112 zw_233)) <|
  zcons (a := (27, zi_gr 1 0 30)) (zs_gr (M := 112) (pc := 27) (n := 0) (ci := 1) (k := 0) (C := RX1) (T := TX1) (N := 4) (zd_eq zk112 (by decide +kernel : decode cX6_longest 27 = .ok (.getfield 110, 3))) rfl (by decide) (by decide) zin_1 (zl_f zo112 zw_123)) <|
  zcons (a := (30, zi_gr 2 0 33)) (zs_gr (M := 112) (pc := 30) (n := 0) (ci := 2) (k := 0) (C := RX2) (T := TX2) (N := 2) (zd_eq zk112 (by decide +kernel : decode cX6_longest 30 = .ok (.getfield 137, 3))) rfl (by decide) (by decide) zin_2 (zl_f zo112 zw_108)) <|
  zcons (a := (33, zi_il 1 34)) (zs_il_n (M := 112) (pc := 33) (zd_eq zk112 (by decide +kernel : decode cX6_longest 33 = .ok (.iload_n 1, 1)))) <|
  zcons (a := (34, zi_qld 3 35)) (zs_qld (M := 112) (pc := 34) (t := 3) rfl (zd_eq zk112 (by decide +kernel : decode cX6_longest 34 = .ok (.aaload, 1)))) <|
  zcons (a := (35, zi_cv 10 1 0 38 0)) (zs_cv (M := 112) (pc := 35) (M' := 10) (k := 1) (kd := 0) (ci := 0) (q := (RX0, TX0, 3)) (zd_eq zk112 (by decide +kernel : decode cX6_longest 35 = .ok (.invokevirtual 196, 3))) zWd10 (zl_m zo112 zy10 zw_592) (zl_i zy10 zw_420) (zl_e zy10 zw_421) (by decide) rfl (by rw [zo10])) <|
  zcons (a := (38, zi_al 0 39)) (zs_al_n (M := 112) (pc := 38) (zd_eq zk112 (by decide +kernel : decode cX6_longest 38 = .ok (.aload_n 0, 1)))) <|
  zcons (a := (39, zi_gr 6 2 42)) (zs_gr (M := 112) (pc := 39) (n := 0) (ci := 6) (k := 2) (C := RX6) (T := TX6) (N := 14) (zd_eq zk112 (by decide +kernel : decode cX6_longest 39 = .ok (.getfield 22, 3))) rfl (by decide) (by decide) zin_6 (zl_f zo112 zw_235)) <|
  zcons (a := (42, zi_il 2 43)) (zs_il_n (M := 112) (pc := 42) (zd_eq zk112 (by decide +kernel : decode cX6_longest 42 = .ok (.iload_n 2, 1)))) <|
  zcons (a := (43, zi_il 6 45)) (zs_il_w (M := 112) (pc := 43) (zd_eq zk112 (by decide +kernel : decode cX6_longest 43 = .ok (.iload 6, 2)))) <| znil
theorem zS112_1 : ∀ q ∈ zm_c112_1, zm_Snd 112 q.1 q.2 :=
  zcons (a := (45, zi_cv 12 2 0 48 0)) (zs_cv (M := 112) (pc := 45) (M' := 12) (k := 2) (kd := 0) (ci := 0) (q := (RX0, TX0, 3)) (zd_eq zk112 (by decide +kernel : decode cX6_longest 45 = .ok (.invokevirtual 163, 3))) zWd12 (zl_m zo112 zy12 zw_489) (zl_i zy12 zw_490) (zl_e zy12 zw_491) (by decide) rfl (by rw [zo12])) <|
  zcons (a := (48, zi_al 0 49)) (zs_al_n (M := 112) (pc := 48) (zd_eq zk112 (by decide +kernel : decode cX6_longest 48 = .ok (.aload_n 0, 1)))) <|
  zcons (a := (49, zi_cv 111 0 6 52 1)) (zs_cv (M := 112) (pc := 49) (M' := 111) (k := 0) (kd := 1) (ci := 6) (q := (RX6, TX6, 14)) (zd_eq zk112 (by decide +kernel : decode cX6_longest 49 = .ok (.invokevirtual 199, 3))) zWd111 (zl_m zo112 zy111 zw_593) (zl_i zy111 zw_595) (zl_e zy111 zw_11) (by decide) rfl (by rw [zo111])) <|
  zcons (a := (52, zi_is 7 54)) (zs_is_w (M := 112) (pc := 52) (zd_eq zk112 (by decide +kernel : decode cX6_longest 52 = .ok (.istore 7, 2))) (by decide +kernel) (by decide +kernel)) <|
  zcons (a := (54, zi_il 7 56)) (zs_il_w (M := 112) (pc := 54) (zd_eq zk112 (by decide +kernel : decode cX6_longest 54 = .ok (.iload 7, 2)))) <|
  zcons (a := (56, zi_il 5 58)) (zs_il_w (M := 112) (pc := 56) (zd_eq zk112 (by decide +kernel : decode cX6_longest 56 = .ok (.iload 5, 2)))) <|
  zcons (a := (58, zi_b2 (fun x y => x ≤ y) 69 61)) (zs_icmple (M := 112) (pc := 58) (zd_eq zk112 (by decide +kernel : decode cX6_longest 58 = .ok (.if_icmp .le 11, 3))) (by decide)) <|
  zcons (a := (61, zi_il 7 63)) (zs_il_w (M := 112) (pc := 61) (zd_eq zk112 (by decide +kernel : decode cX6_longest 61 = .ok (.iload 7, 2)))) <|
  zcons (a := (63, zi_is 5 65)) (zs_is_w (M := 112) (pc := 63) (zd_eq zk112 (by decide +kernel : decode cX6_longest 63 = .ok (.istore 5, 2))) (by decide +kernel) (by decide +kernel)) <|
  zcons (a := (65, zi_il 6 67)) (zs_il_w (M := 112) (pc := 65) (zd_eq zk112 (by decide +kernel : decode cX6_longest 65 = .ok (.iload 6, 2)))) <|
  zcons (a := (67, zi_is 4 69)) (zs_is_w (M := 112) (pc := 67) (zd_eq zk112 (by decide +kernel : decode cX6_longest 67 = .ok (.istore 4, 2))) (by decide +kernel) (by decide +kernel)) <|
  zcons (a := (69, zi_inc 6 1 72)) (zs_inc (M := 112) (pc := 69) (zd_eq zk112 (by decide +kernel : decode cX6_longest 69 = .ok (.iinc 6 1, 3))) (by decide) (by decide +kernel) (by decide +kernel)) <|
  zcons (a := (72, zi_go 9)) (zs_goto (M := 112) (pc := 72) (zd_eq zk112 (by decide +kernel : decode cX6_longest 72 = .ok (.goto (-63), 3))) (by decide)) <|
  zcons (a := (75, zi_il 3 76)) (zs_il_n (M := 112) (pc := 75) (zd_eq zk112 (by decide +kernel : decode cX6_longest 75 = .ok (.iload_n 3, 1)))) <|
  zcons (a := (76, zi_b1 (fun x => ¬ x = 0) 84 79)) (zs_ifne (M := 112) (pc := 76) (zd_eq zk112 (by decide +kernel : decode cX6_longest 76 = .ok (.ifCond .ne 8, 3))) (by decide)) <|
  zcons (a := (79, zi_il 4 81)) (zs_il_w (M := 112) (pc := 79) (zd_eq zk112 (by decide +kernel : decode cX6_longest 79 = .ok (.iload 4, 2)))) <|
  zcons (a := (81, zi_go 86)) (zs_goto (M := 112) (pc := 81) (zd_eq zk112 (by decide +kernel : decode cX6_longest 81 = .ok (.goto 5, 3))) (by decide)) <|
  zcons (a := (84, zi_il 5 86)) (zs_il_w (M := 112) (pc := 84) (zd_eq zk112 (by decide +kernel : decode cX6_longest 84 = .ok (.iload 5, 2)))) <|
  zcons (a := (86, zi_ri)) (zs_ri (M := 112) (pc := 86) (zd_eq zk112 (by decide +kernel : decode cX6_longest 86 = .ok (.ireturn, 1))) rfl) <| znil
theorem zS112 : ∀ pc, zm_Snd 112 pc (zm_lk2 zm_c112 pc) := zlk2 (zcons2 zS112_0 (zcons2 zS112_1 (znil2)))
theorem zS113_0 : ∀ q ∈ zm_c113_0, zm_Snd 113 q.1 q.2 :=
  zcons (a := (0, zi_il 1 1)) (zs_il_n (M := 113) (pc := 0) (zd_eq zk113 (by decide +kernel : decode cX6_afterSalt 0 = .ok (.iload_n 1, 1)))) <|
  zcons (a := (1, zi_k (.int 10) 3)) (zs_bipush (M := 113) (pc := 1) (zd_eq zk113 (by decide +kernel : decode cX6_afterSalt 1 = .ok (.bipush 10, 2))) (by decide)) <|
  zcons (a := (3, zi_cs 105 2 6 1)) (zs_cs (M := 113) (pc := 3) (M' := 105) (k := 2) (kd := 1) (zd_eq zk113 (by decide +kernel : decode cX6_afterSalt 3 = .ok (.invokestatic 67, 3))) zWd105 (zl_m zo113 zy105 zw_280) (zl_s zy105 zw_281)) <|
  zcons (a := (6, zi_b1 (fun x => x = 0) 26 9)) (zs_ifeq (M := 113) (pc := 6) (zd_eq zk113 (by decide +kernel : decode cX6_afterSalt 6 = .ok (.ifCond .eq 20, 3))) (by decide)) <|
  zcons (a := (9, zi_il 2 10)) (zs_il_n (M := 113) (pc := 9) (zd_eq zk113 (by decide +kernel : decode cX6_afterSalt 9 = .ok (.iload_n 2, 1)))) <|
  zcons (a := (10, zi_k (.int 8) 12)) (zs_bipush (M := 113) (pc := 10) (zd_eq zk113 (by decide +kernel : decode cX6_afterSalt 10 = .ok (.bipush 8, 2))) (by decide)) <|
  zcons (a := (12, zi_cs 105 2 15 1)) (zs_cs (M := 113) (pc := 12) (M' := 105) (k := 2) (kd := 1) (zd_eq zk113 (by decide +kernel : decode cX6_afterSalt 12 = .ok (.invokestatic 67, 3))) zWd105 (zl_m zo113 zy105 zw_280) (zl_s zy105 zw_281)) <|
  zcons (a := (15, zi_b1 (fun x => x = 0) 26 18)) (zs_ifeq (M := 113) (pc := 15) (zd_eq zk113 (by decide +kernel : decode cX6_afterSalt 15 = .ok (.ifCond .eq 11, 3))) (by decide)) <|
  zcons (a := (18, zi_il 3 19)) (zs_il_n (M := 113) (pc := 18) (zd_eq zk113 (by decide +kernel : decode cX6_afterSalt 18 = .ok (.iload_n 3, 1)))) <|
  zcons (a := (19, zi_k (.int 1) 20)) (zs_iconst (M := 113) (pc := 19) (zd_eq zk113 (by decide +kernel : decode cX6_afterSalt 19 = .ok (.iconst 1, 1))) (by decide)) <|
  zcons (a := (20, zi_cs 105 2 23 1)) (zs_cs (M := 113) (pc := 20) (M' := 105) (k := 2) (kd := 1) (zd_eq zk113 (by decide +kernel : decode cX6_afterSalt 20 = .ok (.invokestatic 67, 3))) zWd105 (zl_m zo113 zy105 zw_280) (zl_s zy105 zw_281)) <|
  zcons (a := (23, zi_b1 (fun x => ¬ x = 0) 30 26)) (zs_ifne (M := 113) (pc := 23) (zd_eq zk113 (by decide +kernel : decode cX6_afterSalt 23 = .ok (.ifCond .ne 7, 3))) (by decide)) <|
  zcons (a := (26, zi_k (.long (-1)) 29)) (zs_ldc2 (M := 113) (pc := 26) (zd_eq zk113 (by decide +kernel : decode cX6_afterSalt 26 = .ok (.ldc2_w 202, 3))) (zl_k2 zo113 zw_602)) <|
  zcons (a := (29, zi_rl)) (zs_rl (M := 113) (pc := 29) (zd_eq zk113 (by decide +kernel : decode cX6_afterSalt 29 = .ok (.lreturn, 1))) rfl) <|
  zcons (a := (30, zi_k (.long 1) 31)) (zs_lconst (M := 113) (pc := 30) (zd_eq zk113 (by decide +kernel : decode cX6_afterSalt 30 = .ok (.lconst 1, 1))) (by decide)) <|
  zcons (a := (31, zi_ls 5 33)) (zs_ls_w (M := 113) (pc := 31) (zd_eq zk113 (by decide +kernel : decode cX6_afterSalt 31 = .ok (.lstore 5, 2))) (by decide +kernel) (by decide +kernel) (by decide +kernel)) <|
  zcons (a := (33, zi_k (.int 0) 34)) (zs_iconst (M := 113) (pc := 33) (zd_eq zk113 (by decide +kernel : decode cX6_afterSalt 33 = .ok (.iconst 0, 1))) (by decide)) <|
  zcons (a := (34, zi_is 7 36)) (zs_is_w (M := 113) (pc := 34) (zd_eq zk113 (by decide +kernel : decode cX6_afterSalt 34 = .ok (.istore 7, 2))) (by decide +kernel) (by decide +kernel)) <|
  zcons (a := (36, zi_il 7 38)) (zs_il_w (M := 113) (pc := 36) (zd_eq zk113 (by decide +kernel : decode cX6_afterSalt 36 = .ok (.iload 7, 2)))) <|
  zcons (a := (38, zi_il 2 39)) (zs_il_n (M := 113) (pc := 38) (zd_eq zk113 (by decide +kernel : decode cX6_afterSalt 38 = .ok (.iload_n 2, 1)))) <|
  zcons (a := (39, zi_b2 (fun x y => y ≤ x) 56 42)) (zs_icmpge (M := 113) (pc := 39) (zd_eq zk113 (by decide +kernel : decode cX6_afterSalt 39 = .ok (.if_icmp .ge 17, 3))) (by decide)) <|
  zcons (a := (42, zi_ll 5 44)) (zs_ll_w (M := 113) (pc := 42) (zd_eq zk113 (by decide +kernel : decode cX6_afterSalt 42 = .ok (.lload 5, 2)))) <|
  zcons (a := (44, zi_k (.long 10) 47)) (zs_ldc2 (M := 113) (pc := 44) (zd_eq zk113 (by decide +kernel : decode cX6_afterSalt 44 = .ok (.ldc2_w 287, 3))) (zl_k2 zo113 zw_668)) <|
  zcons (a := (47, zi_lbin (· * ·) 48)) (zs_lmul (M := 113) (pc := 47) (zd_eq zk113 (by decide +kernel : decode cX6_afterSalt 47 = .ok (.lmul, 1)))) <| znil
theorem zS113_1 : ∀ q ∈ zm_c113_1, zm_Snd 113 q.1 q.2 :=
  zcons (a := (48, zi_ls 5 50)) (zs_ls_w (M := 113) (pc := 48) (zd_eq zk113 (by decide +kernel : decode cX6_afterSalt 48 = .ok (.lstore 5, 2))) (by decide +kernel) (by decide +kernel) (by decide +kernel)) <|
  zcons (a := (50, zi_inc 7 1 53)) (zs_inc (M := 113) (pc := 50) (zd_eq zk113 (by decide +kernel : decode cX6_afterSalt 50 = .ok (.iinc 7 1, 3))) (by decide) (by decide +kernel) (by decide +kernel)) <|
  zcons (a := (53, zi_go 36)) (zs_goto (M := 113) (pc := 53) (zd_eq zk113 (by decide +kernel : decode cX6_afterSalt 53 = .ok (.goto (-17), 3))) (by decide)) <|
  zcons (a := (56, zi_al 0 57)) (zs_al_n (M := 113) (pc := 56) (zd_eq zk113 (by decide +kernel : decode cX6_afterSalt 56 = .ok (.aload_n 0, 1)))) <|
  zcons (a := (57, zi_gr 6 3 60)) (zs_gr (M := 113) (pc := 57) (n := 0) (ci := 6) (k := 3) (C := RX6) (T := TX6) (N := 14) (zd_eq zk113 (by decide +kernel : decode cX6_afterSalt 57 = .ok (.getfield 28, 3))) rfl (by decide) (by decide) zin_6 (zl_f zo113 zw_236)) <|
  zcons (a := (60, zi_k (.int 0) 61)) (zs_iconst (M := 113) (pc := 60) (zd_eq zk113 (by decide +kernel : decode cX6_afterSalt 60 = .ok (.iconst 0, 1))) (by decide)) <|
  zcons (a := (61, zi_qld 4 62)) (zs_qld (M := 113) (pc := 61) (t := 4) rfl (zd_eq zk113 (by decide +kernel : decode cX6_afterSalt 61 = .ok (.aaload, 1)))) <|
  zcons (a := (62, zi_al 0 63)) (zs_al_n (M := 113) (pc := 62) (zd_eq zk113 (by decide +kernel : decode cX6_afterSalt 62 = .ok (.aload_n 0, 1)))) <|
  zcons (a := (63, zi_gr 6 0 66)) (zs_gr (M := 113) (pc := 63) (n := 0) (ci := 6) (k := 0) (C := RX6) (T := TX6) (N := 14) (zd_eq zk113 (by decide +kernel : decode cX6_afterSalt 63 = .ok (.getfield 10, 3))) rfl (by decide) (by decide) zin_6 (zl_f zo113 zw_233)) <|
  zcons (a := (66, zi_gr 1 0 69)) (zs_gr (M := 113) (pc := 66) (n := 0) (ci := 1) (k := 0) (C := RX1) (T := TX1) (N := 4) (zd_eq zk113 (by decide +kernel : decode cX6_afterSalt 66 = .ok (.getfield 110, 3))) rfl (by decide) (by decide) zin_1 (zl_f zo113 zw_123)) <|
  zcons (a := (69, zi_cv 19 1 2 72 0)) (zs_cv (M := 113) (pc := 69) (M' := 19) (k := 1) (kd := 0) (ci := 2) (q := (RX2, TX2, 2)) (zd_eq zk113 (by decide +kernel : decode cX6_afterSalt 69 = .ok (.invokevirtual 289, 3))) zWd19 (zl_m zo113 zy19 zw_669) (zl_i zy19 zw_416) (zl_e zy19 zw_417) (by decide) rfl (by rw [zo19])) <|
  zcons (a := (72, zi_al 0 73)) (zs_al_n (M := 113) (pc := 72) (zd_eq zk113 (by decide +kernel : decode cX6_afterSalt 72 = .ok (.aload_n 0, 1)))) <|
  zcons (a := (73, zi_gr 6 3 76)) (zs_gr (M := 113) (pc := 73) (n := 0) (ci := 6) (k := 3) (C := RX6) (T := TX6) (N := 14) (zd_eq zk113 (by decide +kernel : decode cX6_afterSalt 73 = .ok (.getfield 28, 3))) rfl (by decide) (by decide) zin_6 (zl_f zo113 zw_236)) <|
  zcons (a := (76, zi_al 0 77)) (zs_al_n (M := 113) (pc := 76) (zd_eq zk113 (by decide +kernel : decode cX6_afterSalt 76 = .ok (.aload_n 0, 1)))) <|
  zcons (a := (77, zi_gr 6 0 80)) (zs_gr (M := 113) (pc := 77) (n := 0) (ci := 6) (k := 0) (C := RX6) (T := TX6) (N := 14) (zd_eq zk113 (by decide +kernel : decode cX6_afterSalt 77 = .ok (.getfield 10, 3))) rfl (by decide) (by decide) zin_6 (zl_f zo113 zw_233)) <|
  zcons (a := (80, zi_k (.int 0) 81)) (zs_iconst (M := 113) (pc := 80) (zd_eq zk113 (by decide +kernel : decode cX6_afterSalt 80 = .ok (.iconst 0, 1))) (by decide)) <|
  zcons (a := (81, zi_il 1 82)) (zs_il_n (M := 113) (pc := 81) (zd_eq zk113 (by decide +kernel : decode cX6_afterSalt 81 = .ok (.iload_n 1, 1)))) <|
  zcons (a := (82, zi_il 2 83)) (zs_il_n (M := 113) (pc := 82) (zd_eq zk113 (by decide +kernel : decode cX6_afterSalt 82 = .ok (.iload_n 2, 1)))) <|
  zcons (a := (83, zi_il 4 85)) (zs_il_w (M := 113) (pc := 83) (zd_eq zk113 (by decide +kernel : decode cX6_afterSalt 83 = .ok (.iload 4, 2)))) <|
  zcons (a := (85, zi_cs 114 6 88 2)) (zs_cs (M := 113) (pc := 85) (M' := 114) (k := 6) (kd := 2) (zd_eq zk113 (by decide +kernel : decode cX6_afterSalt 85 = .ok (.invokestatic 292, 3))) zWd114 (zl_m zo113 zy114 zw_670) (zl_s zy114 zw_671)) <|
  zcons (a := (88, zi_ll 5 90)) (zs_ll_w (M := 113) (pc := 88) (zd_eq zk113 (by decide +kernel : decode cX6_afterSalt 88 = .ok (.lload 5, 2)))) <|
  zcons (a := (90, zi_il 3 91)) (zs_il_n (M := 113) (pc := 90) (zd_eq zk113 (by decide +kernel : decode cX6_afterSalt 90 = .ok (.iload_n 3, 1)))) <|
  zcons (a := (91, zi_cs 109 3 94 2)) (zs_cs (M := 113) (pc := 91) (M' := 109) (k := 3) (kd := 2) (zd_eq zk113 (by decide +kernel : decode cX6_afterSalt 91 = .ok (.invokestatic 207, 3))) zWd109 (zl_m zo113 zy109 zw_604) (zl_s zy109 zw_605)) <|
  zcons (a := (94, zi_rl)) (zs_rl (M := 113) (pc := 94) (zd_eq zk113 (by decide +kernel : decode cX6_afterSalt 94 = .ok (.lreturn, 1))) rfl) <| znil
theorem zS113 : ∀ pc, zm_Snd 113 pc (zm_lk2 zm_c113 pc) := zlk2 (zcons2 zS113_0 (zcons2 zS113_1 (znil2)))
theorem zS114_0 : ∀ q ∈ zm_c114_0, zm_Snd 114 q.1 q.2 :=
  zcons (a := (0, zi_al 0 1)) (zs_al_n (M := 114) (pc := 0) (zd_eq zk114 (by decide +kernel : decode cX6_weighed 0 = .ok (.aload_n 0, 1)))) <|
  zcons (a := (1, zi_il 2 2)) (zs_il_n (M := 114) (pc := 1) (zd_eq zk114 (by decide +kernel : decode cX6_weighed 1 = .ok (.iload_n 2, 1)))) <|
  zcons (a := (2, zi_qld 4 3)) (zs_qld (M := 114) (pc := 2) (t := 4) rfl (zd_eq zk114 (by decide +kernel : decode cX6_weighed 2 = .ok (.aaload, 1)))) <|
  zcons (a := (3, zi_as 6 5)) (zs_as_w (M := 114) (pc := 3) (zd_eq zk114 (by decide +kernel : decode cX6_weighed 3 = .ok (.astore 6, 2))) (by decide +kernel) (by decide +kernel)) <|
  zcons (a := (5, zi_al 6 7)) (zs_al_w (M := 114) (pc := 5) (zd_eq zk114 (by decide +kernel : decode cX6_weighed 5 = .ok (.aload 6, 2)))) <|
  zcons (a := (7, zi_cv 22 0 2 10 1)) (zs_cv (M := 114) (pc := 7) (M' := 22) (k := 0) (kd := 1) (ci := 2) (q := (RX2, TX2, 2)) (zd_eq zk114 (by decide +kernel : decode cX6_weighed 7 = .ok (.invokevirtual 120, 3))) zWd22 (zl_m zo114 zy22 zw_434) (zl_i zy22 zw_435) (zl_e zy22 zw_436) (by decide) rfl (by rw [zo22])) <|
  zcons (a := (10, zi_k (.int (-4)) 12)) (zs_bipush (M := 114) (pc := 10) (zd_eq zk114 (by decide +kernel : decode cX6_weighed 10 = .ok (.bipush (-4), 2))) (by decide)) <|
  zcons (a := (12, zi_b2 (fun x y => ¬ x = y) 17 15)) (zs_icmpne (M := 114) (pc := 12) (zd_eq zk114 (by decide +kernel : decode cX6_weighed 12 = .ok (.if_icmp .ne 5, 3))) (by decide)) <|
  zcons (a := (15, zi_k (.long 0) 16)) (zs_lconst (M := 114) (pc := 15) (zd_eq zk114 (by decide +kernel : decode cX6_weighed 15 = .ok (.lconst 0, 1))) (by decide)) <|
  zcons (a := (16, zi_rl)) (zs_rl (M := 114) (pc := 16) (zd_eq zk114 (by decide +kernel : decode cX6_weighed 16 = .ok (.lreturn, 1))) rfl) <|
  zcons (a := (17, zi_il 2 18)) (zs_il_n (M := 114) (pc := 17) (zd_eq zk114 (by decide +kernel : decode cX6_weighed 17 = .ok (.iload_n 2, 1)))) <|
  zcons (a := (18, zi_il 4 20)) (zs_il_w (M := 114) (pc := 18) (zd_eq zk114 (by decide +kernel : decode cX6_weighed 18 = .ok (.iload 4, 2)))) <|
  zcons (a := (20, zi_b2 (fun x y => y ≤ x) 31 23)) (zs_icmpge (M := 114) (pc := 20) (zd_eq zk114 (by decide +kernel : decode cX6_weighed 20 = .ok (.if_icmp .ge 11, 3))) (by decide)) <|
  zcons (a := (23, zi_il 2 24)) (zs_il_n (M := 114) (pc := 23) (zd_eq zk114 (by decide +kernel : decode cX6_weighed 23 = .ok (.iload_n 2, 1)))) <|
  zcons (a := (24, zi_k (.int 1) 25)) (zs_iconst (M := 114) (pc := 24) (zd_eq zk114 (by decide +kernel : decode cX6_weighed 24 = .ok (.iconst 1, 1))) (by decide)) <|
  zcons (a := (25, zi_bin (· + ·) 26)) (zs_iadd (M := 114) (pc := 25) (zd_eq zk114 (by decide +kernel : decode cX6_weighed 25 = .ok (.iadd, 1)))) <|
  zcons (a := (26, zi_al 0 27)) (zs_al_n (M := 114) (pc := 26) (zd_eq zk114 (by decide +kernel : decode cX6_weighed 26 = .ok (.aload_n 0, 1)))) <|
  zcons (a := (27, zi_len 28)) (zs_len (M := 114) (pc := 27) (zd_eq zk114 (by decide +kernel : decode cX6_weighed 27 = .ok (.arraylength, 1)))) <|
  zcons (a := (28, zi_b2 (fun x y => x < y) 47 31)) (zs_icmplt (M := 114) (pc := 28) (zd_eq zk114 (by decide +kernel : decode cX6_weighed 28 = .ok (.if_icmp .lt 19, 3))) (by decide)) <|
  zcons (a := (31, zi_il 5 33)) (zs_il_w (M := 114) (pc := 31) (zd_eq zk114 (by decide +kernel : decode cX6_weighed 31 = .ok (.iload 5, 2)))) <|
  zcons (a := (33, zi_b1 (fun x => x = 0) 45 36)) (zs_ifeq (M := 114) (pc := 33) (zd_eq zk114 (by decide +kernel : decode cX6_weighed 33 = .ok (.ifCond .eq 12, 3))) (by decide)) <|
  zcons (a := (36, zi_al 6 38)) (zs_al_w (M := 114) (pc := 36) (zd_eq zk114 (by decide +kernel : decode cX6_weighed 36 = .ok (.aload 6, 2)))) <|
  zcons (a := (38, zi_cv 26 0 2 41 1)) (zs_cv (M := 114) (pc := 38) (M' := 26) (k := 0) (kd := 1) (ci := 2) (q := (RX2, TX2, 2)) (zd_eq zk114 (by decide +kernel : decode cX6_weighed 38 = .ok (.invokevirtual 130, 3))) zWd26 (zl_m zo114 zy26 zw_451) (zl_i zy26 zw_452) (zl_e zy26 zw_453) (by decide) rfl (by rw [zo26])) <|
  zcons (a := (41, zi_i2l 42)) (zs_i2l (M := 114) (pc := 41) (zd_eq zk114 (by decide +kernel : decode cX6_weighed 41 = .ok (.i2l, 1)))) <| znil
theorem zS114_1 : ∀ q ∈ zm_c114_1, zm_Snd 114 q.1 q.2 :=
  zcons (a := (42, zi_go 46)) (zs_goto (M := 114) (pc := 42) (zd_eq zk114 (by decide +kernel : decode cX6_weighed 42 = .ok (.goto 4, 3))) (by decide)) <|
  zcons (a := (45, zi_k (.long 1) 46)) (zs_lconst (M := 114) (pc := 45) (zd_eq zk114 (by decide +kernel : decode cX6_weighed 45 = .ok (.lconst 1, 1))) (by decide)) <|
  zcons (a := (46, zi_rl)) (zs_rl (M := 114) (pc := 46) (zd_eq zk114 (by decide +kernel : decode cX6_weighed 46 = .ok (.lreturn, 1))) rfl) <|
  zcons (a := (47, zi_k (.long 0) 48)) (zs_lconst (M := 114) (pc := 47) (zd_eq zk114 (by decide +kernel : decode cX6_weighed 47 = .ok (.lconst 0, 1))) (by decide)) <|
  zcons (a := (48, zi_ls 7 50)) (zs_ls_w (M := 114) (pc := 48) (zd_eq zk114 (by decide +kernel : decode cX6_weighed 48 = .ok (.lstore 7, 2))) (by decide +kernel) (by decide +kernel) (by decide +kernel)) <|
  zcons (a := (50, zi_il 3 51)) (zs_il_n (M := 114) (pc := 50) (zd_eq zk114 (by decide +kernel : decode cX6_weighed 50 = .ok (.iload_n 3, 1)))) <|
  zcons (a := (51, zi_b1 (fun x => x ≤ 0) 82 54)) (zs_ifle (M := 114) (pc := 51) (zd_eq zk114 (by decide +kernel : decode cX6_weighed 51 = .ok (.ifCond .le 31, 3))) (by decide)) <|
  zcons (a := (54, zi_al 0 55)) (zs_al_n (M := 114) (pc := 54) (zd_eq zk114 (by decide +kernel : decode cX6_weighed 54 = .ok (.aload_n 0, 1)))) <|
  zcons (a := (55, zi_al 1 56)) (zs_al_n (M := 114) (pc := 55) (zd_eq zk114 (by decide +kernel : decode cX6_weighed 55 = .ok (.aload_n 1, 1)))) <|
  zcons (a := (56, zi_il 2 57)) (zs_il_n (M := 114) (pc := 56) (zd_eq zk114 (by decide +kernel : decode cX6_weighed 56 = .ok (.iload_n 2, 1)))) <|
  zcons (a := (57, zi_k (.int 1) 58)) (zs_iconst (M := 114) (pc := 57) (zd_eq zk114 (by decide +kernel : decode cX6_weighed 57 = .ok (.iconst 1, 1))) (by decide)) <|
  zcons (a := (58, zi_cs 115 4 61 0)) (zs_cs (M := 114) (pc := 58) (M' := 115) (k := 4) (kd := 0) (zd_eq zk114 (by decide +kernel : decode cX6_weighed 58 = .ok (.invokestatic 296, 3))) zWd115 (zl_m zo114 zy115 zw_673) (zl_s zy115 zw_674)) <|
  zcons (a := (61, zi_ll 7 63)) (zs_ll_w (M := 114) (pc := 61) (zd_eq zk114 (by decide +kernel : decode cX6_weighed 61 = .ok (.lload 7, 2)))) <|
  zcons (a := (63, zi_il 3 64)) (zs_il_n (M := 114) (pc := 63) (zd_eq zk114 (by decide +kernel : decode cX6_weighed 63 = .ok (.iload_n 3, 1)))) <|
  zcons (a := (64, zi_i2l 65)) (zs_i2l (M := 114) (pc := 64) (zd_eq zk114 (by decide +kernel : decode cX6_weighed 64 = .ok (.i2l, 1)))) <|
  zcons (a := (65, zi_al 0 66)) (zs_al_n (M := 114) (pc := 65) (zd_eq zk114 (by decide +kernel : decode cX6_weighed 65 = .ok (.aload_n 0, 1)))) <|
  zcons (a := (66, zi_al 1 67)) (zs_al_n (M := 114) (pc := 66) (zd_eq zk114 (by decide +kernel : decode cX6_weighed 66 = .ok (.aload_n 1, 1)))) <|
  zcons (a := (67, zi_il 2 68)) (zs_il_n (M := 114) (pc := 67) (zd_eq zk114 (by decide +kernel : decode cX6_weighed 67 = .ok (.iload_n 2, 1)))) <|
  zcons (a := (68, zi_k (.int 1) 69)) (zs_iconst (M := 114) (pc := 68) (zd_eq zk114 (by decide +kernel : decode cX6_weighed 68 = .ok (.iconst 1, 1))) (by decide)) <|
  zcons (a := (69, zi_bin (· + ·) 70)) (zs_iadd (M := 114) (pc := 69) (zd_eq zk114 (by decide +kernel : decode cX6_weighed 69 = .ok (.iadd, 1)))) <|
  zcons (a := (70, zi_il 3 71)) (zs_il_n (M := 114) (pc := 70) (zd_eq zk114 (by decide +kernel : decode cX6_weighed 70 = .ok (.iload_n 3, 1)))) <|
  zcons (a := (71, zi_il 4 73)) (zs_il_w (M := 114) (pc := 71) (zd_eq zk114 (by decide +kernel : decode cX6_weighed 71 = .ok (.iload 4, 2)))) <|
  zcons (a := (73, zi_il 5 75)) (zs_il_w (M := 114) (pc := 73) (zd_eq zk114 (by decide +kernel : decode cX6_weighed 73 = .ok (.iload 5, 2)))) <|
  zcons (a := (75, zi_cs 114 6 78 2)) (zs_cs (M := 114) (pc := 75) (M' := 114) (k := 6) (kd := 2) (zd_eq zk114 (by decide +kernel : decode cX6_weighed 75 = .ok (.invokestatic 292, 3))) zWd114 (zl_m zo114 zy114 zw_670) (zl_s zy114 zw_671)) <| znil
theorem zS114_2 : ∀ q ∈ zm_c114_2, zm_Snd 114 q.1 q.2 :=
  zcons (a := (78, zi_lbin (· * ·) 79)) (zs_lmul (M := 114) (pc := 78) (zd_eq zk114 (by decide +kernel : decode cX6_weighed 78 = .ok (.lmul, 1)))) <|
  zcons (a := (79, zi_lbin (· + ·) 80)) (zs_ladd (M := 114) (pc := 79) (zd_eq zk114 (by decide +kernel : decode cX6_weighed 79 = .ok (.ladd, 1)))) <|
  zcons (a := (80, zi_ls 7 82)) (zs_ls_w (M := 114) (pc := 80) (zd_eq zk114 (by decide +kernel : decode cX6_weighed 80 = .ok (.lstore 7, 2))) (by decide +kernel) (by decide +kernel) (by decide +kernel)) <|
  zcons (a := (82, zi_il 3 83)) (zs_il_n (M := 114) (pc := 82) (zd_eq zk114 (by decide +kernel : decode cX6_weighed 82 = .ok (.iload_n 3, 1)))) <|
  zcons (a := (83, zi_k (.int 10) 85)) (zs_bipush (M := 114) (pc := 83) (zd_eq zk114 (by decide +kernel : decode cX6_weighed 83 = .ok (.bipush 10, 2))) (by decide)) <|
  zcons (a := (85, zi_b2 (fun x y => y ≤ x) 119 88)) (zs_icmpge (M := 114) (pc := 85) (zd_eq zk114 (by decide +kernel : decode cX6_weighed 85 = .ok (.if_icmp .ge 34, 3))) (by decide)) <|
  zcons (a := (88, zi_al 0 89)) (zs_al_n (M := 114) (pc := 88) (zd_eq zk114 (by decide +kernel : decode cX6_weighed 88 = .ok (.aload_n 0, 1)))) <|
  zcons (a := (89, zi_al 1 90)) (zs_al_n (M := 114) (pc := 89) (zd_eq zk114 (by decide +kernel : decode cX6_weighed 89 = .ok (.aload_n 1, 1)))) <|
  zcons (a := (90, zi_il 2 91)) (zs_il_n (M := 114) (pc := 90) (zd_eq zk114 (by decide +kernel : decode cX6_weighed 90 = .ok (.iload_n 2, 1)))) <|
  zcons (a := (91, zi_k (.int 0) 92)) (zs_iconst (M := 114) (pc := 91) (zd_eq zk114 (by decide +kernel : decode cX6_weighed 91 = .ok (.iconst 0, 1))) (by decide)) <|
  zcons (a := (92, zi_cs 115 4 95 0)) (zs_cs (M := 114) (pc := 92) (M' := 115) (k := 4) (kd := 0) (zd_eq zk114 (by decide +kernel : decode cX6_weighed 92 = .ok (.invokestatic 296, 3))) zWd115 (zl_m zo114 zy115 zw_673) (zl_s zy115 zw_674)) <|
  zcons (a := (95, zi_ll 7 97)) (zs_ll_w (M := 114) (pc := 95) (zd_eq zk114 (by decide +kernel : decode cX6_weighed 95 = .ok (.lload 7, 2)))) <|
  zcons (a := (97, zi_k (.int 10) 99)) (zs_bipush (M := 114) (pc := 97) (zd_eq zk114 (by decide +kernel : decode cX6_weighed 97 = .ok (.bipush 10, 2))) (by decide)) <|
  zcons (a := (99, zi_il 3 100)) (zs_il_n (M := 114) (pc := 99) (zd_eq zk114 (by decide +kernel : decode cX6_weighed 99 = .ok (.iload_n 3, 1)))) <|
  zcons (a := (100, zi_bin (· - ·) 101)) (zs_isub (M := 114) (pc := 100) (zd_eq zk114 (by decide +kernel : decode cX6_weighed 100 = .ok (.isub, 1)))) <|
  zcons (a := (101, zi_i2l 102)) (zs_i2l (M := 114) (pc := 101) (zd_eq zk114 (by decide +kernel : decode cX6_weighed 101 = .ok (.i2l, 1)))) <|
  zcons (a := (102, zi_al 0 103)) (zs_al_n (M := 114) (pc := 102) (zd_eq zk114 (by decide +kernel : decode cX6_weighed 102 = .ok (.aload_n 0, 1)))) <|
  zcons (a := (103, zi_al 1 104)) (zs_al_n (M := 114) (pc := 103) (zd_eq zk114 (by decide +kernel : decode cX6_weighed 103 = .ok (.aload_n 1, 1)))) <|
  zcons (a := (104, zi_il 2 105)) (zs_il_n (M := 114) (pc := 104) (zd_eq zk114 (by decide +kernel : decode cX6_weighed 104 = .ok (.iload_n 2, 1)))) <|
  zcons (a := (105, zi_k (.int 1) 106)) (zs_iconst (M := 114) (pc := 105) (zd_eq zk114 (by decide +kernel : decode cX6_weighed 105 = .ok (.iconst 1, 1))) (by decide)) <|
  zcons (a := (106, zi_bin (· + ·) 107)) (zs_iadd (M := 114) (pc := 106) (zd_eq zk114 (by decide +kernel : decode cX6_weighed 106 = .ok (.iadd, 1)))) <|
  zcons (a := (107, zi_il 3 108)) (zs_il_n (M := 114) (pc := 107) (zd_eq zk114 (by decide +kernel : decode cX6_weighed 107 = .ok (.iload_n 3, 1)))) <|
  zcons (a := (108, zi_il 4 110)) (zs_il_w (M := 114) (pc := 108) (zd_eq zk114 (by decide +kernel : decode cX6_weighed 108 = .ok (.iload 4, 2)))) <|
  zcons (a := (110, zi_il 5 112)) (zs_il_w (M := 114) (pc := 110) (zd_eq zk114 (by decide +kernel : decode cX6_weighed 110 = .ok (.iload 5, 2)))) <| znil
theorem zS114_3 : ∀ q ∈ zm_c114_3, zm_Snd 114 q.1 q.2 :=
  zcons (a := (112, zi_cs 114 6 115 2)) (zs_cs (M := 114) (pc := 112) (M' := 114) (k := 6) (kd := 2) (zd_eq zk114 (by decide +kernel : decode cX6_weighed 112 = .ok (.invokestatic 292, 3))) zWd114 (zl_m zo114 zy114 zw_670) (zl_s zy114 zw_671)) <|
  zcons (a := (115, zi_lbin (· * ·) 116)) (zs_lmul (M := 114) (pc := 115) (zd_eq zk114 (by decide +kernel : decode cX6_weighed 115 = .ok (.lmul, 1)))) <|
  zcons (a := (116, zi_lbin (· + ·) 117)) (zs_ladd (M := 114) (pc := 116) (zd_eq zk114 (by decide +kernel : decode cX6_weighed 116 = .ok (.ladd, 1)))) <|
  zcons (a := (117, zi_ls 7 119)) (zs_ls_w (M := 114) (pc := 117) (zd_eq zk114 (by decide +kernel : decode cX6_weighed 117 = .ok (.lstore 7, 2))) (by decide +kernel) (by decide +kernel) (by decide +kernel)) <|
  zcons (a := (119, zi_ll 7 121)) (zs_ll_w (M := 114) (pc := 119) (zd_eq zk114 (by decide +kernel : decode cX6_weighed 119 = .ok (.lload 7, 2)))) <|
  zcons (a := (121, zi_rl)) (zs_rl (M := 114) (pc := 121) (zd_eq zk114 (by decide +kernel : decode cX6_weighed 121 = .ok (.lreturn, 1))) rfl) <| znil
theorem zS114 : ∀ pc, zm_Snd 114 pc (zm_lk2 zm_c114 pc) := zlk2 (zcons2 zS114_0 (zcons2 zS114_1 (zcons2 zS114_2 (zcons2 zS114_3 (znil2)))))
theorem zS115_0 : ∀ q ∈ zm_c115_0, zm_Snd 115 q.1 q.2 :=
  zcons (a := (0, zi_al 0 1)) (zs_al_n (M := 115) (pc := 0) (zd_eq zk115 (by decide +kernel : decode cX6_passSalted 0 = .ok (.aload_n 0, 1)))) <|
  zcons (a := (1, zi_il 2 2)) (zs_il_n (M := 115) (pc := 1) (zd_eq zk115 (by decide +kernel : decode cX6_passSalted 1 = .ok (.iload_n 2, 1)))) <|
  zcons (a := (2, zi_k (.int 1) 3)) (zs_iconst (M := 115) (pc := 2) (zd_eq zk115 (by decide +kernel : decode cX6_passSalted 2 = .ok (.iconst 1, 1))) (by decide)) <|
  zcons (a := (3, zi_bin (· + ·) 4)) (zs_iadd (M := 115) (pc := 3) (zd_eq zk115 (by decide +kernel : decode cX6_passSalted 3 = .ok (.iadd, 1)))) <|
  zcons (a := (4, zi_qld 4 5)) (zs_qld (M := 115) (pc := 4) (t := 4) rfl (zd_eq zk115 (by decide +kernel : decode cX6_passSalted 4 = .ok (.aaload, 1)))) <|
  zcons (a := (5, zi_as 4 7)) (zs_as_w (M := 115) (pc := 5) (zd_eq zk115 (by decide +kernel : decode cX6_passSalted 5 = .ok (.astore 4, 2))) (by decide +kernel) (by decide +kernel)) <|
  zcons (a := (7, zi_al 4 9)) (zs_al_w (M := 115) (pc := 7) (zd_eq zk115 (by decide +kernel : decode cX6_passSalted 7 = .ok (.aload 4, 2)))) <|
  zcons (a := (9, zi_al 0 10)) (zs_al_n (M := 115) (pc := 9) (zd_eq zk115 (by decide +kernel : decode cX6_passSalted 9 = .ok (.aload_n 0, 1)))) <|
  zcons (a := (10, zi_il 2 11)) (zs_il_n (M := 115) (pc := 10) (zd_eq zk115 (by decide +kernel : decode cX6_passSalted 10 = .ok (.iload_n 2, 1)))) <|
  zcons (a := (11, zi_qld 4 12)) (zs_qld (M := 115) (pc := 11) (t := 4) rfl (zd_eq zk115 (by decide +kernel : decode cX6_passSalted 11 = .ok (.aaload, 1)))) <|
  zcons (a := (12, zi_cv 19 1 2 15 0)) (zs_cv (M := 115) (pc := 12) (M' := 19) (k := 1) (kd := 0) (ci := 2) (q := (RX2, TX2, 2)) (zd_eq zk115 (by decide +kernel : decode cX6_passSalted 12 = .ok (.invokevirtual 289, 3))) zWd19 (zl_m zo115 zy19 zw_669) (zl_i zy19 zw_416) (zl_e zy19 zw_417) (by decide) rfl (by rw [zo19])) <|
  zcons (a := (15, zi_al 4 17)) (zs_al_w (M := 115) (pc := 15) (zd_eq zk115 (by decide +kernel : decode cX6_passSalted 15 = .ok (.aload 4, 2)))) <|
  zcons (a := (17, zi_cv 22 0 2 20 1)) (zs_cv (M := 115) (pc := 17) (M' := 22) (k := 0) (kd := 1) (ci := 2) (q := (RX2, TX2, 2)) (zd_eq zk115 (by decide +kernel : decode cX6_passSalted 17 = .ok (.invokevirtual 120, 3))) zWd22 (zl_m zo115 zy22 zw_434) (zl_i zy22 zw_435) (zl_e zy22 zw_436) (by decide) rfl (by rw [zo22])) <|
  zcons (a := (20, zi_is 5 22)) (zs_is_w (M := 115) (pc := 20) (zd_eq zk115 (by decide +kernel : decode cX6_passSalted 20 = .ok (.istore 5, 2))) (by decide +kernel) (by decide +kernel)) <|
  zcons (a := (22, zi_il 3 23)) (zs_il_n (M := 115) (pc := 22) (zd_eq zk115 (by decide +kernel : decode cX6_passSalted 22 = .ok (.iload_n 3, 1)))) <|
  zcons (a := (23, zi_b1 (fun x => x = 0) 44 26)) (zs_ifeq (M := 115) (pc := 23) (zd_eq zk115 (by decide +kernel : decode cX6_passSalted 23 = .ok (.ifCond .eq 21, 3))) (by decide)) <|
  zcons (a := (26, zi_il 5 28)) (zs_il_w (M := 115) (pc := 26) (zd_eq zk115 (by decide +kernel : decode cX6_passSalted 26 = .ok (.iload 5, 2)))) <|
  zcons (a := (28, zi_k (.int (-4)) 30)) (zs_bipush (M := 115) (pc := 28) (zd_eq zk115 (by decide +kernel : decode cX6_passSalted 28 = .ok (.bipush (-4), 2))) (by decide)) <|
  zcons (a := (30, zi_b2 (fun x y => x = y) 44 33)) (zs_icmpeq (M := 115) (pc := 30) (zd_eq zk115 (by decide +kernel : decode cX6_passSalted 30 = .ok (.if_icmp .eq 14, 3))) (by decide)) <|
  zcons (a := (33, zi_al 4 35)) (zs_al_w (M := 115) (pc := 33) (zd_eq zk115 (by decide +kernel : decode cX6_passSalted 33 = .ok (.aload 4, 2)))) <|
  zcons (a := (35, zi_gr 2 0 38)) (zs_gr (M := 115) (pc := 35) (n := 0) (ci := 2) (k := 0) (C := RX2) (T := TX2) (N := 2) (zd_eq zk115 (by decide +kernel : decode cX6_passSalted 35 = .ok (.getfield 137, 3))) rfl (by decide) (by decide) zin_2 (zl_f zo115 zw_108)) <|
  zcons (a := (38, zi_il 5 40)) (zs_il_w (M := 115) (pc := 38) (zd_eq zk115 (by decide +kernel : decode cX6_passSalted 38 = .ok (.iload 5, 2)))) <|
  zcons (a := (40, zi_qld 3 41)) (zs_qld (M := 115) (pc := 40) (t := 3) rfl (zd_eq zk115 (by decide +kernel : decode cX6_passSalted 40 = .ok (.aaload, 1)))) <|
  zcons (a := (41, zi_cv 14 0 0 44 0)) (zs_cv (M := 115) (pc := 41) (M' := 14) (k := 0) (kd := 0) (ci := 0) (q := (RX0, TX0, 3)) (zd_eq zk115 (by decide +kernel : decode cX6_passSalted 41 = .ok (.invokevirtual 178, 3))) zWd14 (zl_m zo115 zy14 zw_515) (zl_i zy14 zw_516) (zl_e zy14 zw_517) (by decide) rfl (by rw [zo14])) <| znil
theorem zS115_1 : ∀ q ∈ zm_c115_1, zm_Snd 115 q.1 q.2 :=
  zcons (a := (44, zi_al 1 45)) (zs_al_n (M := 115) (pc := 44) (zd_eq zk115 (by decide +kernel : decode cX6_passSalted 44 = .ok (.aload_n 1, 1)))) <|
  zcons (a := (45, zi_gi 1 3 48)) (zs_gi (M := 115) (pc := 45) (n := 0) (ci := 1) (k := 3) (C := RX1) (T := TX1) (N := 4) (zd_eq zk115 (by decide +kernel : decode cX6_passSalted 45 = .ok (.getfield 117, 3))) rfl (by decide) (by decide) zin_1 (zl_f zo115 zw_131)) <|
  zcons (a := (48, zi_il 2 49)) (zs_il_n (M := 115) (pc := 48) (zd_eq zk115 (by decide +kernel : decode cX6_passSalted 48 = .ok (.iload_n 2, 1)))) <|
  zcons (a := (49, zi_bin (· + ·) 50)) (zs_iadd (M := 115) (pc := 49) (zd_eq zk115 (by decide +kernel : decode cX6_passSalted 49 = .ok (.iadd, 1)))) <|
  zcons (a := (50, zi_k (.int 7) 52)) (zs_bipush (M := 115) (pc := 50) (zd_eq zk115 (by decide +kernel : decode cX6_passSalted 50 = .ok (.bipush 7, 2))) (by decide)) <|
  zcons (a := (52, zi_rem 53)) (zs_irem (M := 115) (pc := 52) (zd_eq zk115 (by decide +kernel : decode cX6_passSalted 52 = .ok (.irem, 1)))) <|
  zcons (a := (53, zi_is 6 55)) (zs_is_w (M := 115) (pc := 53) (zd_eq zk115 (by decide +kernel : decode cX6_passSalted 53 = .ok (.istore 6, 2))) (by decide +kernel) (by decide +kernel)) <|
  zcons (a := (55, zi_al 4 57)) (zs_al_w (M := 115) (pc := 55) (zd_eq zk115 (by decide +kernel : decode cX6_passSalted 55 = .ok (.aload 4, 2)))) <|
  zcons (a := (57, zi_al 1 58)) (zs_al_n (M := 115) (pc := 57) (zd_eq zk115 (by decide +kernel : decode cX6_passSalted 57 = .ok (.aload_n 1, 1)))) <|
  zcons (a := (58, zi_gr 1 1 61)) (zs_gr (M := 115) (pc := 58) (n := 0) (ci := 1) (k := 1) (C := RX1) (T := TX1) (N := 4) (zd_eq zk115 (by decide +kernel : decode cX6_passSalted 58 = .ok (.getfield 141, 3))) rfl (by decide) (by decide) zin_1 (zl_f zo115 zw_126)) <|
  zcons (a := (61, zi_il 6 63)) (zs_il_w (M := 115) (pc := 61) (zd_eq zk115 (by decide +kernel : decode cX6_passSalted 61 = .ok (.iload 6, 2)))) <|
  zcons (a := (63, zi_ald 0 64)) (zs_iald (M := 115) (pc := 63) (zd_eq zk115 (by decide +kernel : decode cX6_passSalted 63 = .ok (.iaload, 1)))) <|
  zcons (a := (64, zi_al 1 65)) (zs_al_n (M := 115) (pc := 64) (zd_eq zk115 (by decide +kernel : decode cX6_passSalted 64 = .ok (.aload_n 1, 1)))) <|
  zcons (a := (65, zi_gr 1 2 68)) (zs_gr (M := 115) (pc := 65) (n := 0) (ci := 1) (k := 2) (C := RX1) (T := TX1) (N := 4) (zd_eq zk115 (by decide +kernel : decode cX6_passSalted 65 = .ok (.getfield 151, 3))) rfl (by decide) (by decide) zin_1 (zl_f zo115 zw_129)) <|
  zcons (a := (68, zi_il 6 70)) (zs_il_w (M := 115) (pc := 68) (zd_eq zk115 (by decide +kernel : decode cX6_passSalted 68 = .ok (.iload 6, 2)))) <|
  zcons (a := (70, zi_ald 0 71)) (zs_iald (M := 115) (pc := 70) (zd_eq zk115 (by decide +kernel : decode cX6_passSalted 70 = .ok (.iaload, 1)))) <|
  zcons (a := (71, zi_cv 27 2 2 74 0)) (zs_cv (M := 115) (pc := 71) (M' := 27) (k := 2) (kd := 0) (ci := 2) (q := (RX2, TX2, 2)) (zd_eq zk115 (by decide +kernel : decode cX6_passSalted 71 = .ok (.invokevirtual 256, 3))) zWd27 (zl_m zo115 zy27 zw_676) (zl_i zy27 zw_537) (zl_e zy27 zw_538) (by decide) rfl (by rw [zo27])) <|
  zcons (a := (74, zi_rv)) (zs_rv (M := 115) (pc := 74) (zd_eq zk115 (by decide +kernel : decode cX6_passSalted 74 = .ok (.return_, 1))) rfl) <| znil
theorem zS115 : ∀ pc, zm_Snd 115 pc (zm_lk2 zm_c115 pc) := zlk2 (zcons2 zS115_0 (zcons2 zS115_1 (znil2)))
theorem zS116_0 : ∀ q ∈ zm_c116_0, zm_Snd 116 q.1 q.2 :=
  zcons (a := (0, zi_k (.int 0) 1)) (zs_iconst (M := 116) (pc := 0) (zd_eq zk116 (by decide +kernel : decode cX6_fittingBits 0 = .ok (.iconst 0, 1))) (by decide)) <|
  zcons (a := (1, zi_is 4 3)) (zs_is_w (M := 116) (pc := 1) (zd_eq zk116 (by decide +kernel : decode cX6_fittingBits 1 = .ok (.istore 4, 2))) (by decide +kernel) (by decide +kernel)) <|
  zcons (a := (3, zi_k (.int 0) 4)) (zs_iconst (M := 116) (pc := 3) (zd_eq zk116 (by decide +kernel : decode cX6_fittingBits 3 = .ok (.iconst 0, 1))) (by decide)) <|
  zcons (a := (4, zi_is 5 6)) (zs_is_w (M := 116) (pc := 4) (zd_eq zk116 (by decide +kernel : decode cX6_fittingBits 4 = .ok (.istore 5, 2))) (by decide +kernel) (by decide +kernel)) <|
  zcons (a := (6, zi_il 5 8)) (zs_il_w (M := 116) (pc := 6) (zd_eq zk116 (by decide +kernel : decode cX6_fittingBits 6 = .ok (.iload 5, 2)))) <|
  zcons (a := (8, zi_il 3 9)) (zs_il_n (M := 116) (pc := 8) (zd_eq zk116 (by decide +kernel : decode cX6_fittingBits 8 = .ok (.iload_n 3, 1)))) <|
  zcons (a := (9, zi_b2 (fun x y => y < x) 38 12)) (zs_icmpgt (M := 116) (pc := 9) (zd_eq zk116 (by decide +kernel : decode cX6_fittingBits 9 = .ok (.if_icmp .gt 29, 3))) (by decide)) <|
  zcons (a := (12, zi_al 0 13)) (zs_al_n (M := 116) (pc := 12) (zd_eq zk116 (by decide +kernel : decode cX6_fittingBits 12 = .ok (.aload_n 0, 1)))) <|
  zcons (a := (13, zi_il 1 14)) (zs_il_n (M := 116) (pc := 13) (zd_eq zk116 (by decide +kernel : decode cX6_fittingBits 13 = .ok (.iload_n 1, 1)))) <|
  zcons (a := (14, zi_il 2 15)) (zs_il_n (M := 116) (pc := 14) (zd_eq zk116 (by decide +kernel : decode cX6_fittingBits 14 = .ok (.iload_n 2, 1)))) <|
  zcons (a := (15, zi_il 5 17)) (zs_il_w (M := 116) (pc := 15) (zd_eq zk116 (by decide +kernel : decode cX6_fittingBits 15 = .ok (.iload 5, 2)))) <|
  zcons (a := (17, zi_cv 117 3 6 20 1)) (zs_cv (M := 116) (pc := 17) (M' := 117) (k := 3) (kd := 1) (ci := 6) (q := (RX6, TX6, 14)) (zd_eq zk116 (by decide +kernel : decode cX6_fittingBits 17 = .ok (.invokevirtual 240, 3))) zWd117 (zl_m zo116 zy117 zw_697) (zl_i zy117 zw_699) (zl_e zy117 zw_15) (by decide) rfl (by rw [zo117])) <|
  zcons (a := (20, zi_b1 (fun x => x = 0) 32 23)) (zs_ifeq (M := 116) (pc := 20) (zd_eq zk116 (by decide +kernel : decode cX6_fittingBits 20 = .ok (.ifCond .eq 12, 3))) (by decide)) <|
  zcons (a := (23, zi_il 4 25)) (zs_il_w (M := 116) (pc := 23) (zd_eq zk116 (by decide +kernel : decode cX6_fittingBits 23 = .ok (.iload 4, 2)))) <|
  zcons (a := (25, zi_k (.int 1) 26)) (zs_iconst (M := 116) (pc := 25) (zd_eq zk116 (by decide +kernel : decode cX6_fittingBits 25 = .ok (.iconst 1, 1))) (by decide)) <|
  zcons (a := (26, zi_il 5 28)) (zs_il_w (M := 116) (pc := 26) (zd_eq zk116 (by decide +kernel : decode cX6_fittingBits 26 = .ok (.iload 5, 2)))) <|
  zcons (a := (28, zi_bin (fun x y => x <<< (y &&& 31)) 29)) (zs_ishl (M := 116) (pc := 28) (zd_eq zk116 (by decide +kernel : decode cX6_fittingBits 28 = .ok (.ishl, 1)))) <|
  zcons (a := (29, zi_bin (· ||| ·) 30)) (zs_ior (M := 116) (pc := 29) (zd_eq zk116 (by decide +kernel : decode cX6_fittingBits 29 = .ok (.ior, 1)))) <|
  zcons (a := (30, zi_is 4 32)) (zs_is_w (M := 116) (pc := 30) (zd_eq zk116 (by decide +kernel : decode cX6_fittingBits 30 = .ok (.istore 4, 2))) (by decide +kernel) (by decide +kernel)) <|
  zcons (a := (32, zi_inc 5 1 35)) (zs_inc (M := 116) (pc := 32) (zd_eq zk116 (by decide +kernel : decode cX6_fittingBits 32 = .ok (.iinc 5 1, 3))) (by decide) (by decide +kernel) (by decide +kernel)) <|
  zcons (a := (35, zi_go 6)) (zs_goto (M := 116) (pc := 35) (zd_eq zk116 (by decide +kernel : decode cX6_fittingBits 35 = .ok (.goto (-29), 3))) (by decide)) <|
  zcons (a := (38, zi_il 4 40)) (zs_il_w (M := 116) (pc := 38) (zd_eq zk116 (by decide +kernel : decode cX6_fittingBits 38 = .ok (.iload 4, 2)))) <|
  zcons (a := (40, zi_ri)) (zs_ri (M := 116) (pc := 40) (zd_eq zk116 (by decide +kernel : decode cX6_fittingBits 40 = .ok (.ireturn, 1))) rfl) <| znil
theorem zS116 : ∀ pc, zm_Snd 116 pc (zm_lk2 zm_c116 pc) := zlk2 (zcons2 zS116_0 (znil2))
theorem zS117_0 : ∀ q ∈ zm_c117_0, zm_Snd 117 q.1 q.2 :=
  zcons (a := (0, zi_al 0 1)) (zs_al_n (M := 117) (pc := 0) (zd_eq zk117 (by decide +kernel : decode cX6_wouldFit 0 = .ok (.aload_n 0, 1)))) <|
  zcons (a := (1, zi_gr 6 1 4)) (zs_gr (M := 117) (pc := 1) (n := 0) (ci := 6) (k := 1) (C := RX6) (T := TX6) (N := 14) (zd_eq zk117 (by decide +kernel : decode cX6_wouldFit 1 = .ok (.getfield 16, 3))) rfl (by decide) (by decide) zin_6 (zl_f zo117 zw_234)) <|
  zcons (a := (4, zi_al 0 5)) (zs_al_n (M := 117) (pc := 4) (zd_eq zk117 (by decide +kernel : decode cX6_wouldFit 4 = .ok (.aload_n 0, 1)))) <|
  zcons (a := (5, zi_gr 6 0 8)) (zs_gr (M := 117) (pc := 5) (n := 0) (ci := 6) (k := 0) (C := RX6) (T := TX6) (N := 14) (zd_eq zk117 (by decide +kernel : decode cX6_wouldFit 5 = .ok (.getfield 10, 3))) rfl (by decide) (by decide) zin_6 (zl_f zo117 zw_233)) <|
  zcons (a := (8, zi_cv 30 1 1 11 0)) (zs_cv (M := 117) (pc := 8) (M' := 30) (k := 1) (kd := 0) (ci := 1) (q := (RX1, TX1, 4)) (zd_eq zk117 (by decide +kernel : decode cX6_wouldFit 8 = .ok (.invokevirtual 100, 3))) zWd30 (zl_m zo117 zy30 zw_411) (zl_i zy30 zw_412) (zl_e zy30 zw_413) (by decide) rfl (by rw [zo30])) <|
  zcons (a := (11, zi_al 0 12)) (zs_al_n (M := 117) (pc := 11) (zd_eq zk117 (by decide +kernel : decode cX6_wouldFit 11 = .ok (.aload_n 0, 1)))) <|
  zcons (a := (12, zi_gr 6 1 15)) (zs_gr (M := 117) (pc := 12) (n := 0) (ci := 6) (k := 1) (C := RX6) (T := TX6) (N := 14) (zd_eq zk117 (by decide +kernel : decode cX6_wouldFit 12 = .ok (.getfield 16, 3))) rfl (by decide) (by decide) zin_6 (zl_f zo117 zw_234)) <|
  zcons (a := (15, zi_gr 1 0 18)) (zs_gr (M := 117) (pc := 15) (n := 0) (ci := 1) (k := 0) (C := RX1) (T := TX1) (N := 4) (zd_eq zk117 (by decide +kernel : decode cX6_wouldFit 15 = .ok (.getfield 110, 3))) rfl (by decide) (by decide) zin_1 (zl_f zo117 zw_123)) <|
  zcons (a := (18, zi_gr 2 0 21)) (zs_gr (M := 117) (pc := 18) (n := 0) (ci := 2) (k := 0) (C := RX2) (T := TX2) (N := 2) (zd_eq zk117 (by decide +kernel : decode cX6_wouldFit 18 = .ok (.getfield 137, 3))) rfl (by decide) (by decide) zin_2 (zl_f zo117 zw_108)) <|
  zcons (a := (21, zi_il 1 22)) (zs_il_n (M := 117) (pc := 21) (zd_eq zk117 (by decide +kernel : decode cX6_wouldFit 21 = .ok (.iload_n 1, 1)))) <|
  zcons (a := (22, zi_qld 3 23)) (zs_qld (M := 117) (pc := 22) (t := 3) rfl (zd_eq zk117 (by decide +kernel : decode cX6_wouldFit 22 = .ok (.aaload, 1)))) <|
  zcons (a := (23, zi_il 2 24)) (zs_il_n (M := 117) (pc := 23) (zd_eq zk117 (by decide +kernel : decode cX6_wouldFit 23 = .ok (.iload_n 2, 1)))) <|
  zcons (a := (24, zi_il 3 25)) (zs_il_n (M := 117) (pc := 24) (zd_eq zk117 (by decide +kernel : decode cX6_wouldFit 24 = .ok (.iload_n 3, 1)))) <|
  zcons (a := (25, zi_cv 12 2 0 28 0)) (zs_cv (M := 117) (pc := 25) (M' := 12) (k := 2) (kd := 0) (ci := 0) (q := (RX0, TX0, 3)) (zd_eq zk117 (by decide +kernel : decode cX6_wouldFit 25 = .ok (.invokevirtual 163, 3))) zWd12 (zl_m zo117 zy12 zw_489) (zl_i zy12 zw_490) (zl_e zy12 zw_491) (by decide) rfl (by rw [zo12])) <|
  zcons (a := (28, zi_al 0 29)) (zs_al_n (M := 117) (pc := 28) (zd_eq zk117 (by decide +kernel : decode cX6_wouldFit 28 = .ok (.aload_n 0, 1)))) <|
  zcons (a := (29, zi_cv 118 0 6 32 1)) (zs_cv (M := 117) (pc := 29) (M' := 118) (k := 0) (kd := 1) (ci := 6) (q := (RX6, TX6, 14)) (zd_eq zk117 (by decide +kernel : decode cX6_wouldFit 29 = .ok (.invokevirtual 300, 3))) zWd118 (zl_m zo117 zy118 zw_701) (zl_i zy118 zw_703) (zl_e zy118 zw_16) (by decide) rfl (by rw [zo118])) <|
  zcons (a := (32, zi_is 4 34)) (zs_is_w (M := 117) (pc := 32) (zd_eq zk117 (by decide +kernel : decode cX6_wouldFit 32 = .ok (.istore 4, 2))) (by decide +kernel) (by decide +kernel)) <|
  zcons (a := (34, zi_k (.int 0) 35)) (zs_iconst (M := 117) (pc := 34) (zd_eq zk117 (by decide +kernel : decode cX6_wouldFit 34 = .ok (.iconst 0, 1))) (by decide)) <|
  zcons (a := (35, zi_is 5 37)) (zs_is_w (M := 117) (pc := 35) (zd_eq zk117 (by decide +kernel : decode cX6_wouldFit 35 = .ok (.istore 5, 2))) (by decide +kernel) (by decide +kernel)) <|
  zcons (a := (37, zi_il 5 39)) (zs_il_w (M := 117) (pc := 37) (zd_eq zk117 (by decide +kernel : decode cX6_wouldFit 37 = .ok (.iload 5, 2)))) <|
  zcons (a := (39, zi_il 4 41)) (zs_il_w (M := 117) (pc := 39) (zd_eq zk117 (by decide +kernel : decode cX6_wouldFit 39 = .ok (.iload 4, 2)))) <|
  zcons (a := (41, zi_b2 (fun x y => y < x) 78 44)) (zs_icmpgt (M := 117) (pc := 41) (zd_eq zk117 (by decide +kernel : decode cX6_wouldFit 41 = .ok (.if_icmp .gt 37, 3))) (by decide)) <|
  zcons (a := (44, zi_al 0 45)) (zs_al_n (M := 117) (pc := 44) (zd_eq zk117 (by decide +kernel : decode cX6_wouldFit 44 = .ok (.aload_n 0, 1)))) <|
  zcons (a := (45, zi_il 5 47)) (zs_il_w (M := 117) (pc := 45) (zd_eq zk117 (by decide +kernel : decode cX6_wouldFit 45 = .ok (.iload 5, 2)))) <| znil
theorem zS117_1 : ∀ q ∈ zm_c117_1, zm_Snd 117 q.1 q.2 :=
  zcons (a := (47, zi_al 0 48)) (zs_al_n (M := 117) (pc := 47) (zd_eq zk117 (by decide +kernel : decode cX6_wouldFit 47 = .ok (.aload_n 0, 1)))) <|
  zcons (a := (48, zi_gr 6 1 51)) (zs_gr (M := 117) (pc := 48) (n := 0) (ci := 6) (k := 1) (C := RX6) (T := TX6) (N := 14) (zd_eq zk117 (by decide +kernel : decode cX6_wouldFit 48 = .ok (.getfield 16, 3))) rfl (by decide) (by decide) zin_6 (zl_f zo117 zw_234)) <|
  zcons (a := (51, zi_gr 1 0 54)) (zs_gr (M := 117) (pc := 51) (n := 0) (ci := 1) (k := 0) (C := RX1) (T := TX1) (N := 4) (zd_eq zk117 (by decide +kernel : decode cX6_wouldFit 51 = .ok (.getfield 110, 3))) rfl (by decide) (by decide) zin_1 (zl_f zo117 zw_123)) <|
  zcons (a := (54, zi_cv 23 0 2 57 1)) (zs_cv (M := 117) (pc := 54) (M' := 23) (k := 0) (kd := 1) (ci := 2) (q := (RX2, TX2, 2)) (zd_eq zk117 (by decide +kernel : decode cX6_wouldFit 54 = .ok (.invokevirtual 124, 3))) zWd23 (zl_m zo117 zy23 zw_442) (zl_i zy23 zw_443) (zl_e zy23 zw_444) (by decide) rfl (by rw [zo23])) <|
  zcons (a := (57, zi_cv 119 2 6 60 1)) (zs_cv (M := 117) (pc := 57) (M' := 119) (k := 2) (kd := 1) (ci := 6) (q := (RX6, TX6, 14)) (zd_eq zk117 (by decide +kernel : decode cX6_wouldFit 57 = .ok (.invokevirtual 303, 3))) zWd119 (zl_m zo117 zy119 zw_706) (zl_i zy119 zw_708) (zl_e zy119 zw_17) (by decide) rfl (by rw [zo119])) <|
  zcons (a := (60, zi_b1 (fun x => ¬ x = 0) 65 63)) (zs_ifne (M := 117) (pc := 60) (zd_eq zk117 (by decide +kernel : decode cX6_wouldFit 60 = .ok (.ifCond .ne 5, 3))) (by decide)) <|
  zcons (a := (63, zi_k (.int 0) 64)) (zs_iconst (M := 117) (pc := 63) (zd_eq zk117 (by decide +kernel : decode cX6_wouldFit 63 = .ok (.iconst 0, 1))) (by decide)) <|
  zcons (a := (64, zi_rz)) (zs_rz (M := 117) (pc := 64) (zd_eq zk117 (by decide +kernel : decode cX6_wouldFit 64 = .ok (.ireturn, 1))) rfl) <|
  zcons (a := (65, zi_al 0 66)) (zs_al_n (M := 117) (pc := 65) (zd_eq zk117 (by decide +kernel : decode cX6_wouldFit 65 = .ok (.aload_n 0, 1)))) <|
  zcons (a := (66, zi_gr 6 1 69)) (zs_gr (M := 117) (pc := 66) (n := 0) (ci := 6) (k := 1) (C := RX6) (T := TX6) (N := 14) (zd_eq zk117 (by decide +kernel : decode cX6_wouldFit 66 = .ok (.getfield 16, 3))) rfl (by decide) (by decide) zin_6 (zl_f zo117 zw_234)) <|
  zcons (a := (69, zi_cv 32 0 1 72 0)) (zs_cv (M := 117) (pc := 69) (M' := 32) (k := 0) (kd := 0) (ci := 1) (q := (RX1, TX1, 4)) (zd_eq zk117 (by decide +kernel : decode cX6_wouldFit 69 = .ok (.invokevirtual 211, 3))) zWd32 (zl_m zo117 zy32 zw_615) (zl_i zy32 zw_532) (zl_e zy32 zw_533) (by decide) rfl (by rw [zo32])) <|
  zcons (a := (72, zi_inc 5 1 75)) (zs_inc (M := 117) (pc := 72) (zd_eq zk117 (by decide +kernel : decode cX6_wouldFit 72 = .ok (.iinc 5 1, 3))) (by decide) (by decide +kernel) (by decide +kernel)) <|
  zcons (a := (75, zi_go 37)) (zs_goto (M := 117) (pc := 75) (zd_eq zk117 (by decide +kernel : decode cX6_wouldFit 75 = .ok (.goto (-38), 3))) (by decide)) <|
  zcons (a := (78, zi_k (.int 1) 79)) (zs_iconst (M := 117) (pc := 78) (zd_eq zk117 (by decide +kernel : decode cX6_wouldFit 78 = .ok (.iconst 1, 1))) (by decide)) <|
  zcons (a := (79, zi_rz)) (zs_rz (M := 117) (pc := 79) (zd_eq zk117 (by decide +kernel : decode cX6_wouldFit 79 = .ok (.ireturn, 1))) rfl) <| znil
theorem zS117 : ∀ pc, zm_Snd 117 pc (zm_lk2 zm_c117 pc) := zlk2 (zcons2 zS117_0 (zcons2 zS117_1 (znil2)))
theorem zS118_0 : ∀ q ∈ zm_c118_0, zm_Snd 118 q.1 q.2 :=
  zcons (a := (0, zi_k (.int (-4)) 2)) (zs_bipush (M := 118) (pc := 0) (zd_eq zk118 (by decide +kernel : decode cX6_lastSeen 0 = .ok (.bipush (-4), 2))) (by decide)) <|
  zcons (a := (2, zi_is 1 3)) (zs_is_n (M := 118) (pc := 2) (zd_eq zk118 (by decide +kernel : decode cX6_lastSeen 2 = .ok (.istore_n 1, 1))) (by decide +kernel) (by decide +kernel)) <|
  zcons (a := (3, zi_k (.int 0) 4)) (zs_iconst (M := 118) (pc := 3) (zd_eq zk118 (by decide +kernel : decode cX6_lastSeen 3 = .ok (.iconst 0, 1))) (by decide)) <|
  zcons (a := (4, zi_is 2 5)) (zs_is_n (M := 118) (pc := 4) (zd_eq zk118 (by decide +kernel : decode cX6_lastSeen 4 = .ok (.istore_n 2, 1))) (by decide +kernel) (by decide +kernel)) <|
  zcons (a := (5, zi_il 2 6)) (zs_il_n (M := 118) (pc := 5) (zd_eq zk118 (by decide +kernel : decode cX6_lastSeen 5 = .ok (.iload_n 2, 1)))) <|
  zcons (a := (6, zi_al 0 7)) (zs_al_n (M := 118) (pc := 6) (zd_eq zk118 (by decide +kernel : decode cX6_lastSeen 6 = .ok (.aload_n 0, 1)))) <|
  zcons (a := (7, zi_gi 6 9 10)) (zs_gi (M := 118) (pc := 7) (n := 0) (ci := 6) (k := 9) (C := RX6) (T := TX6) (N := 14) (zd_eq zk118 (by decide +kernel : decode cX6_lastSeen 7 = .ok (.getfield 104, 3))) rfl (by decide) (by decide) zin_6 (zl_f zo118 zw_242)) <|
  zcons (a := (10, zi_b2 (fun x y => y ≤ x) 30 13)) (zs_icmpge (M := 118) (pc := 10) (zd_eq zk118 (by decide +kernel : decode cX6_lastSeen 10 = .ok (.if_icmp .ge 20, 3))) (by decide)) <|
  zcons (a := (13, zi_il 1 14)) (zs_il_n (M := 118) (pc := 13) (zd_eq zk118 (by decide +kernel : decode cX6_lastSeen 13 = .ok (.iload_n 1, 1)))) <|
  zcons (a := (14, zi_al 0 15)) (zs_al_n (M := 118) (pc := 14) (zd_eq zk118 (by decide +kernel : decode cX6_lastSeen 14 = .ok (.aload_n 0, 1)))) <|
  zcons (a := (15, zi_gr 6 7 18)) (zs_gr (M := 118) (pc := 15) (n := 0) (ci := 6) (k := 7) (C := RX6) (T := TX6) (N := 14) (zd_eq zk118 (by decide +kernel : decode cX6_lastSeen 15 = .ok (.getfield 45, 3))) rfl (by decide) (by decide) zin_6 (zl_f zo118 zw_240)) <|
  zcons (a := (18, zi_il 2 19)) (zs_il_n (M := 118) (pc := 18) (zd_eq zk118 (by decide +kernel : decode cX6_lastSeen 18 = .ok (.iload_n 2, 1)))) <|
  zcons (a := (19, zi_ald 0 20)) (zs_iald (M := 118) (pc := 19) (zd_eq zk118 (by decide +kernel : decode cX6_lastSeen 19 = .ok (.iaload, 1)))) <|
  zcons (a := (20, zi_m2 (fun x y => if x < y then y else x) 23)) (zs_max (M := 118) (pc := 20) (zd_eq zk118 (by decide +kernel : decode cX6_lastSeen 20 = .ok (.invokestatic 306, 3))) (zl_mo zo118 zw_705) zw_551 zw_63 zw_552) <|
  zcons (a := (23, zi_is 1 24)) (zs_is_n (M := 118) (pc := 23) (zd_eq zk118 (by decide +kernel : decode cX6_lastSeen 23 = .ok (.istore_n 1, 1))) (by decide +kernel) (by decide +kernel)) <|
  zcons (a := (24, zi_inc 2 1 27)) (zs_inc (M := 118) (pc := 24) (zd_eq zk118 (by decide +kernel : decode cX6_lastSeen 24 = .ok (.iinc 2 1, 3))) (by decide) (by decide +kernel) (by decide +kernel)) <|
  zcons (a := (27, zi_go 5)) (zs_goto (M := 118) (pc := 27) (zd_eq zk118 (by decide +kernel : decode cX6_lastSeen 27 = .ok (.goto (-22), 3))) (by decide)) <|
  zcons (a := (30, zi_il 1 31)) (zs_il_n (M := 118) (pc := 30) (zd_eq zk118 (by decide +kernel : decode cX6_lastSeen 30 = .ok (.iload_n 1, 1)))) <|
  zcons (a := (31, zi_ri)) (zs_ri (M := 118) (pc := 31) (zd_eq zk118 (by decide +kernel : decode cX6_lastSeen 31 = .ok (.ireturn, 1))) rfl) <| znil
theorem zS118 : ∀ pc, zm_Snd 118 pc (zm_lk2 zm_c118 pc) := zlk2 (zcons2 zS118_0 (znil2))
theorem zS119_0 : ∀ q ∈ zm_c119_0, zm_Snd 119 q.1 q.2 :=
  zcons (a := (0, zi_k (.int 0) 1)) (zs_iconst (M := 119) (pc := 0) (zd_eq zk119 (by decide +kernel : decode cX6_isAsSeen 0 = .ok (.iconst 0, 1))) (by decide)) <|
  zcons (a := (1, zi_is 3 2)) (zs_is_n (M := 119) (pc := 1) (zd_eq zk119 (by decide +kernel : decode cX6_isAsSeen 1 = .ok (.istore_n 3, 1))) (by decide +kernel) (by decide +kernel)) <|
  zcons (a := (2, zi_il 3 3)) (zs_il_n (M := 119) (pc := 2) (zd_eq zk119 (by decide +kernel : decode cX6_isAsSeen 2 = .ok (.iload_n 3, 1)))) <|
  zcons (a := (3, zi_al 0 4)) (zs_al_n (M := 119) (pc := 3) (zd_eq zk119 (by decide +kernel : decode cX6_isAsSeen 3 = .ok (.aload_n 0, 1)))) <|
  zcons (a := (4, zi_gi 6 9 7)) (zs_gi (M := 119) (pc := 4) (n := 0) (ci := 6) (k := 9) (C := RX6) (T := TX6) (N := 14) (zd_eq zk119 (by decide +kernel : decode cX6_isAsSeen 4 = .ok (.getfield 104, 3))) rfl (by decide) (by decide) zin_6 (zl_f zo119 zw_242)) <|
  zcons (a := (7, zi_b2 (fun x y => y ≤ x) 58 10)) (zs_icmpge (M := 119) (pc := 7) (zd_eq zk119 (by decide +kernel : decode cX6_isAsSeen 7 = .ok (.if_icmp .ge 51, 3))) (by decide)) <|
  zcons (a := (10, zi_al 0 11)) (zs_al_n (M := 119) (pc := 10) (zd_eq zk119 (by decide +kernel : decode cX6_isAsSeen 10 = .ok (.aload_n 0, 1)))) <|
  zcons (a := (11, zi_gr 6 8 14)) (zs_gr (M := 119) (pc := 11) (n := 0) (ci := 6) (k := 8) (C := RX6) (T := TX6) (N := 14) (zd_eq zk119 (by decide +kernel : decode cX6_isAsSeen 11 = .ok (.getfield 49, 3))) rfl (by decide) (by decide) zin_6 (zl_f zo119 zw_241)) <|
  zcons (a := (14, zi_il 3 15)) (zs_il_n (M := 119) (pc := 14) (zd_eq zk119 (by decide +kernel : decode cX6_isAsSeen 14 = .ok (.iload_n 3, 1)))) <|
  zcons (a := (15, zi_ald 0 16)) (zs_iald (M := 119) (pc := 15) (zd_eq zk119 (by decide +kernel : decode cX6_isAsSeen 15 = .ok (.iaload, 1)))) <|
  zcons (a := (16, zi_k (.int 9) 18)) (zs_bipush (M := 119) (pc := 16) (zd_eq zk119 (by decide +kernel : decode cX6_isAsSeen 16 = .ok (.bipush 9, 2))) (by decide)) <|
  zcons (a := (18, zi_b2 (fun x y => ¬ x = y) 26 21)) (zs_icmpne (M := 119) (pc := 18) (zd_eq zk119 (by decide +kernel : decode cX6_isAsSeen 18 = .ok (.if_icmp .ne 8, 3))) (by decide)) <|
  zcons (a := (21, zi_k (.int (-4)) 23)) (zs_bipush (M := 119) (pc := 21) (zd_eq zk119 (by decide +kernel : decode cX6_isAsSeen 21 = .ok (.bipush (-4), 2))) (by decide)) <|
  zcons (a := (23, zi_go 32)) (zs_goto (M := 119) (pc := 23) (zd_eq zk119 (by decide +kernel : decode cX6_isAsSeen 23 = .ok (.goto 9, 3))) (by decide)) <|
  zcons (a := (26, zi_al 0 27)) (zs_al_n (M := 119) (pc := 26) (zd_eq zk119 (by decide +kernel : decode cX6_isAsSeen 26 = .ok (.aload_n 0, 1)))) <|
  zcons (a := (27, zi_gr 6 8 30)) (zs_gr (M := 119) (pc := 27) (n := 0) (ci := 6) (k := 8) (C := RX6) (T := TX6) (N := 14) (zd_eq zk119 (by decide +kernel : decode cX6_isAsSeen 27 = .ok (.getfield 49, 3))) rfl (by decide) (by decide) zin_6 (zl_f zo119 zw_241)) <|
  zcons (a := (30, zi_il 3 31)) (zs_il_n (M := 119) (pc := 30) (zd_eq zk119 (by decide +kernel : decode cX6_isAsSeen 30 = .ok (.iload_n 3, 1)))) <|
  zcons (a := (31, zi_ald 0 32)) (zs_iald (M := 119) (pc := 31) (zd_eq zk119 (by decide +kernel : decode cX6_isAsSeen 31 = .ok (.iaload, 1)))) <|
  zcons (a := (32, zi_is 4 34)) (zs_is_w (M := 119) (pc := 32) (zd_eq zk119 (by decide +kernel : decode cX6_isAsSeen 32 = .ok (.istore 4, 2))) (by decide +kernel) (by decide +kernel)) <|
  zcons (a := (34, zi_al 0 35)) (zs_al_n (M := 119) (pc := 34) (zd_eq zk119 (by decide +kernel : decode cX6_isAsSeen 34 = .ok (.aload_n 0, 1)))) <|
  zcons (a := (35, zi_gr 6 7 38)) (zs_gr (M := 119) (pc := 35) (n := 0) (ci := 6) (k := 7) (C := RX6) (T := TX6) (N := 14) (zd_eq zk119 (by decide +kernel : decode cX6_isAsSeen 35 = .ok (.getfield 45, 3))) rfl (by decide) (by decide) zin_6 (zl_f zo119 zw_240)) <|
  zcons (a := (38, zi_il 3 39)) (zs_il_n (M := 119) (pc := 38) (zd_eq zk119 (by decide +kernel : decode cX6_isAsSeen 38 = .ok (.iload_n 3, 1)))) <|
  zcons (a := (39, zi_ald 0 40)) (zs_iald (M := 119) (pc := 39) (zd_eq zk119 (by decide +kernel : decode cX6_isAsSeen 39 = .ok (.iaload, 1)))) <|
  zcons (a := (40, zi_il 1 41)) (zs_il_n (M := 119) (pc := 40) (zd_eq zk119 (by decide +kernel : decode cX6_isAsSeen 40 = .ok (.iload_n 1, 1)))) <| znil
theorem zS119_1 : ∀ q ∈ zm_c119_1, zm_Snd 119 q.1 q.2 :=
  zcons (a := (41, zi_b2 (fun x y => ¬ x = y) 52 44)) (zs_icmpne (M := 119) (pc := 41) (zd_eq zk119 (by decide +kernel : decode cX6_isAsSeen 41 = .ok (.if_icmp .ne 11, 3))) (by decide)) <|
  zcons (a := (44, zi_il 4 46)) (zs_il_w (M := 119) (pc := 44) (zd_eq zk119 (by decide +kernel : decode cX6_isAsSeen 44 = .ok (.iload 4, 2)))) <|
  zcons (a := (46, zi_il 2 47)) (zs_il_n (M := 119) (pc := 46) (zd_eq zk119 (by decide +kernel : decode cX6_isAsSeen 46 = .ok (.iload_n 2, 1)))) <|
  zcons (a := (47, zi_b2 (fun x y => x = y) 52 50)) (zs_icmpeq (M := 119) (pc := 47) (zd_eq zk119 (by decide +kernel : decode cX6_isAsSeen 47 = .ok (.if_icmp .eq 5, 3))) (by decide)) <|
  zcons (a := (50, zi_k (.int 0) 51)) (zs_iconst (M := 119) (pc := 50) (zd_eq zk119 (by decide +kernel : decode cX6_isAsSeen 50 = .ok (.iconst 0, 1))) (by decide)) <|
  zcons (a := (51, zi_rz)) (zs_rz (M := 119) (pc := 51) (zd_eq zk119 (by decide +kernel : decode cX6_isAsSeen 51 = .ok (.ireturn, 1))) rfl) <|
  zcons (a := (52, zi_inc 3 1 55)) (zs_inc (M := 119) (pc := 52) (zd_eq zk119 (by decide +kernel : decode cX6_isAsSeen 52 = .ok (.iinc 3 1, 3))) (by decide) (by decide +kernel) (by decide +kernel)) <|
  zcons (a := (55, zi_go 2)) (zs_goto (M := 119) (pc := 55) (zd_eq zk119 (by decide +kernel : decode cX6_isAsSeen 55 = .ok (.goto (-53), 3))) (by decide)) <|
  zcons (a := (58, zi_k (.int 1) 59)) (zs_iconst (M := 119) (pc := 58) (zd_eq zk119 (by decide +kernel : decode cX6_isAsSeen 58 = .ok (.iconst 1, 1))) (by decide)) <|
  zcons (a := (59, zi_rz)) (zs_rz (M := 119) (pc := 59) (zd_eq zk119 (by decide +kernel : decode cX6_isAsSeen 59 = .ok (.ireturn, 1))) rfl) <| znil
theorem zS119 : ∀ pc, zm_Snd 119 pc (zm_lk2 zm_c119 pc) := zlk2 (zcons2 zS119_0 (zcons2 zS119_1 (znil2)))
theorem zS120_0 : ∀ q ∈ zm_c120_0, zm_Snd 120 q.1 q.2 :=
  zcons (a := (0, zi_k (.int 0) 1)) (zs_iconst (M := 120) (pc := 0) (zd_eq zk120 (by decide +kernel : decode cX6_foreseeByKind 0 = .ok (.iconst 0, 1))) (by decide)) <|
  zcons (a := (1, zi_is 2 2)) (zs_is_n (M := 120) (pc := 1) (zd_eq zk120 (by decide +kernel : decode cX6_foreseeByKind 1 = .ok (.istore_n 2, 1))) (by decide +kernel) (by decide +kernel)) <|
  zcons (a := (2, zi_il 2 3)) (zs_il_n (M := 120) (pc := 2) (zd_eq zk120 (by decide +kernel : decode cX6_foreseeByKind 2 = .ok (.iload_n 2, 1)))) <|
  zcons (a := (3, zi_k (.int 3) 4)) (zs_iconst (M := 120) (pc := 3) (zd_eq zk120 (by decide +kernel : decode cX6_foreseeByKind 3 = .ok (.iconst 3, 1))) (by decide)) <|
  zcons (a := (4, zi_b2 (fun x y => y < x) 55 7)) (zs_icmpgt (M := 120) (pc := 4) (zd_eq zk120 (by decide +kernel : decode cX6_foreseeByKind 4 = .ok (.if_icmp .gt 51, 3))) (by decide)) <|
  zcons (a := (7, zi_al 0 8)) (zs_al_n (M := 120) (pc := 7) (zd_eq zk120 (by decide +kernel : decode cX6_foreseeByKind 7 = .ok (.aload_n 0, 1)))) <|
  zcons (a := (8, zi_gr 6 1 11)) (zs_gr (M := 120) (pc := 8) (n := 0) (ci := 6) (k := 1) (C := RX6) (T := TX6) (N := 14) (zd_eq zk120 (by decide +kernel : decode cX6_foreseeByKind 8 = .ok (.getfield 16, 3))) rfl (by decide) (by decide) zin_6 (zl_f zo120 zw_234)) <|
  zcons (a := (11, zi_al 0 12)) (zs_al_n (M := 120) (pc := 11) (zd_eq zk120 (by decide +kernel : decode cX6_foreseeByKind 11 = .ok (.aload_n 0, 1)))) <|
  zcons (a := (12, zi_gr 6 0 15)) (zs_gr (M := 120) (pc := 12) (n := 0) (ci := 6) (k := 0) (C := RX6) (T := TX6) (N := 14) (zd_eq zk120 (by decide +kernel : decode cX6_foreseeByKind 12 = .ok (.getfield 10, 3))) rfl (by decide) (by decide) zin_6 (zl_f zo120 zw_233)) <|
  zcons (a := (15, zi_cv 30 1 1 18 0)) (zs_cv (M := 120) (pc := 15) (M' := 30) (k := 1) (kd := 0) (ci := 1) (q := (RX1, TX1, 4)) (zd_eq zk120 (by decide +kernel : decode cX6_foreseeByKind 15 = .ok (.invokevirtual 100, 3))) zWd30 (zl_m zo120 zy30 zw_411) (zl_i zy30 zw_412) (zl_e zy30 zw_413) (by decide) rfl (by rw [zo30])) <|
  zcons (a := (18, zi_al 0 19)) (zs_al_n (M := 120) (pc := 18) (zd_eq zk120 (by decide +kernel : decode cX6_foreseeByKind 18 = .ok (.aload_n 0, 1)))) <|
  zcons (a := (19, zi_gr 6 1 22)) (zs_gr (M := 120) (pc := 19) (n := 0) (ci := 6) (k := 1) (C := RX6) (T := TX6) (N := 14) (zd_eq zk120 (by decide +kernel : decode cX6_foreseeByKind 19 = .ok (.getfield 16, 3))) rfl (by decide) (by decide) zin_6 (zl_f zo120 zw_234)) <|
  zcons (a := (22, zi_gr 1 0 25)) (zs_gr (M := 120) (pc := 22) (n := 0) (ci := 1) (k := 0) (C := RX1) (T := TX1) (N := 4) (zd_eq zk120 (by decide +kernel : decode cX6_foreseeByKind 22 = .ok (.getfield 110, 3))) rfl (by decide) (by decide) zin_1 (zl_f zo120 zw_123)) <|
  zcons (a := (25, zi_gr 2 0 28)) (zs_gr (M := 120) (pc := 25) (n := 0) (ci := 2) (k := 0) (C := RX2) (T := TX2) (N := 2) (zd_eq zk120 (by decide +kernel : decode cX6_foreseeByKind 25 = .ok (.getfield 137, 3))) rfl (by decide) (by decide) zin_2 (zl_f zo120 zw_108)) <|
  zcons (a := (28, zi_il 1 29)) (zs_il_n (M := 120) (pc := 28) (zd_eq zk120 (by decide +kernel : decode cX6_foreseeByKind 28 = .ok (.iload_n 1, 1)))) <|
  zcons (a := (29, zi_qld 3 30)) (zs_qld (M := 120) (pc := 29) (t := 3) rfl (zd_eq zk120 (by decide +kernel : decode cX6_foreseeByKind 29 = .ok (.aaload, 1)))) <|
  zcons (a := (30, zi_il 2 31)) (zs_il_n (M := 120) (pc := 30) (zd_eq zk120 (by decide +kernel : decode cX6_foreseeByKind 30 = .ok (.iload_n 2, 1)))) <|
  zcons (a := (31, zi_pf 0 0 34)) (zs_pf (M := 120) (pc := 31) (ci := 0) (k := 0) (C := RX0) (T := TX0) (N := 3) (ty0 := tyX0) (zd_eq zk120 (by decide +kernel : decode cX6_foreseeByKind 31 = .ok (.putfield 175, 3))) rfl (by decide) (by decide) zin_0 (zl_f zo120 zw_94) tyX0_ok nmX0 rfl (tyX0_ok 0 (by decide))) <|
  zcons (a := (34, zi_al 0 35)) (zs_al_n (M := 120) (pc := 34) (zd_eq zk120 (by decide +kernel : decode cX6_foreseeByKind 34 = .ok (.aload_n 0, 1)))) <|
  zcons (a := (35, zi_gr 6 1 38)) (zs_gr (M := 120) (pc := 35) (n := 0) (ci := 6) (k := 1) (C := RX6) (T := TX6) (N := 14) (zd_eq zk120 (by decide +kernel : decode cX6_foreseeByKind 35 = .ok (.getfield 16, 3))) rfl (by decide) (by decide) zin_6 (zl_f zo120 zw_234)) <|
  zcons (a := (38, zi_al 0 39)) (zs_al_n (M := 120) (pc := 38) (zd_eq zk120 (by decide +kernel : decode cX6_foreseeByKind 38 = .ok (.aload_n 0, 1)))) <|
  zcons (a := (39, zi_gr 6 4 42)) (zs_gr (M := 120) (pc := 39) (n := 0) (ci := 6) (k := 4) (C := RX6) (T := TX6) (N := 14) (zd_eq zk120 (by decide +kernel : decode cX6_foreseeByKind 39 = .ok (.getfield 35, 3))) rfl (by decide) (by decide) zin_6 (zl_f zo120 zw_237)) <|
  zcons (a := (42, zi_il 2 43)) (zs_il_n (M := 120) (pc := 42) (zd_eq zk120 (by decide +kernel : decode cX6_foreseeByKind 42 = .ok (.iload_n 2, 1)))) <|
  zcons (a := (43, zi_qld 7 44)) (zs_qld (M := 120) (pc := 43) (t := 7) rfl (zd_eq zk120 (by decide +kernel : decode cX6_foreseeByKind 43 = .ok (.aaload, 1)))) <| znil
theorem zS120_1 : ∀ q ∈ zm_c120_1, zm_Snd 120 q.1 q.2 :=
  zcons (a := (44, zi_k (.int 30) 46)) (zs_bipush (M := 120) (pc := 44) (zd_eq zk120 (by decide +kernel : decode cX6_foreseeByKind 44 = .ok (.bipush 30, 2))) (by decide)) <|
  zcons (a := (46, zi_cv 38 2 1 49 0)) (zs_cv (M := 120) (pc := 46) (M' := 38) (k := 2) (kd := 0) (ci := 1) (q := (RX1, TX1, 4)) (zd_eq zk120 (by decide +kernel : decode cX6_foreseeByKind 46 = .ok (.invokevirtual 311, 3))) zWd38 (zl_m zo120 zy38 zw_726) (zl_i zy38 zw_727) (zl_e zy38 zw_728) (by decide) rfl (by rw [zo38])) <|
  zcons (a := (49, zi_inc 2 1 52)) (zs_inc (M := 120) (pc := 49) (zd_eq zk120 (by decide +kernel : decode cX6_foreseeByKind 49 = .ok (.iinc 2 1, 3))) (by decide) (by decide +kernel) (by decide +kernel)) <|
  zcons (a := (52, zi_go 2)) (zs_goto (M := 120) (pc := 52) (zd_eq zk120 (by decide +kernel : decode cX6_foreseeByKind 52 = .ok (.goto (-50), 3))) (by decide)) <|
  zcons (a := (55, zi_rv)) (zs_rv (M := 120) (pc := 55) (zd_eq zk120 (by decide +kernel : decode cX6_foreseeByKind 55 = .ok (.return_, 1))) rfl) <| znil
theorem zS120 : ∀ pc, zm_Snd 120 pc (zm_lk2 zm_c120 pc) := zlk2 (zcons2 zS120_0 (zcons2 zS120_1 (znil2)))
theorem zS121_0 : ∀ q ∈ zm_c121_0, zm_Snd 121 q.1 q.2 :=
  zcons (a := (0, zi_k (.int 0) 1)) (zs_iconst (M := 121) (pc := 0) (zd_eq zk121 (by decide +kernel : decode cX6_mostAlike 0 = .ok (.iconst 0, 1))) (by decide)) <|
  zcons (a := (1, zi_is 3 2)) (zs_is_n (M := 121) (pc := 1) (zd_eq zk121 (by decide +kernel : decode cX6_mostAlike 1 = .ok (.istore_n 3, 1))) (by decide +kernel) (by decide +kernel)) <|
  zcons (a := (2, zi_k (.int 0) 3)) (zs_iconst (M := 121) (pc := 2) (zd_eq zk121 (by decide +kernel : decode cX6_mostAlike 2 = .ok (.iconst 0, 1))) (by decide)) <|
  zcons (a := (3, zi_is 4 5)) (zs_is_w (M := 121) (pc := 3) (zd_eq zk121 (by decide +kernel : decode cX6_mostAlike 3 = .ok (.istore 4, 2))) (by decide +kernel) (by decide +kernel)) <|
  zcons (a := (5, zi_il 4 7)) (zs_il_w (M := 121) (pc := 5) (zd_eq zk121 (by decide +kernel : decode cX6_mostAlike 5 = .ok (.iload 4, 2)))) <|
  zcons (a := (7, zi_k (.int 3) 8)) (zs_iconst (M := 121) (pc := 7) (zd_eq zk121 (by decide +kernel : decode cX6_mostAlike 7 = .ok (.iconst 3, 1))) (by decide)) <|
  zcons (a := (8, zi_b2 (fun x y => y < x) 76 11)) (zs_icmpgt (M := 121) (pc := 8) (zd_eq zk121 (by decide +kernel : decode cX6_mostAlike 8 = .ok (.if_icmp .gt 68, 3))) (by decide)) <|
  zcons (a := (11, zi_k (.int 0) 12)) (zs_iconst (M := 121) (pc := 11) (zd_eq zk121 (by decide +kernel : decode cX6_mostAlike 11 = .ok (.iconst 0, 1))) (by decide)) <|
  zcons (a := (12, zi_is 5 14)) (zs_is_w (M := 121) (pc := 12) (zd_eq zk121 (by decide +kernel : decode cX6_mostAlike 12 = .ok (.istore 5, 2))) (by decide +kernel) (by decide +kernel)) <|
  zcons (a := (14, zi_k (.int 0) 15)) (zs_iconst (M := 121) (pc := 14) (zd_eq zk121 (by decide +kernel : decode cX6_mostAlike 14 = .ok (.iconst 0, 1))) (by decide)) <|
  zcons (a := (15, zi_is 6 17)) (zs_is_w (M := 121) (pc := 15) (zd_eq zk121 (by decide +kernel : decode cX6_mostAlike 15 = .ok (.istore 6, 2))) (by decide +kernel) (by decide +kernel)) <|
  zcons (a := (17, zi_il 6 19)) (zs_il_w (M := 121) (pc := 17) (zd_eq zk121 (by decide +kernel : decode cX6_mostAlike 17 = .ok (.iload 6, 2)))) <|
  zcons (a := (19, zi_k (.int 3) 20)) (zs_iconst (M := 121) (pc := 19) (zd_eq zk121 (by decide +kernel : decode cX6_mostAlike 19 = .ok (.iconst 3, 1))) (by decide)) <|
  zcons (a := (20, zi_b2 (fun x y => y < x) 63 23)) (zs_icmpgt (M := 121) (pc := 20) (zd_eq zk121 (by decide +kernel : decode cX6_mostAlike 20 = .ok (.if_icmp .gt 43, 3))) (by decide)) <|
  zcons (a := (23, zi_il 1 24)) (zs_il_n (M := 121) (pc := 23) (zd_eq zk121 (by decide +kernel : decode cX6_mostAlike 23 = .ok (.iload_n 1, 1)))) <|
  zcons (a := (24, zi_il 6 26)) (zs_il_w (M := 121) (pc := 24) (zd_eq zk121 (by decide +kernel : decode cX6_mostAlike 24 = .ok (.iload 6, 2)))) <|
  zcons (a := (26, zi_bin (fun x y => x >>> (y &&& 31)) 27)) (zs_ishr (M := 121) (pc := 26) (zd_eq zk121 (by decide +kernel : decode cX6_mostAlike 26 = .ok (.ishr, 1)))) <|
  zcons (a := (27, zi_k (.int 1) 28)) (zs_iconst (M := 121) (pc := 27) (zd_eq zk121 (by decide +kernel : decode cX6_mostAlike 27 = .ok (.iconst 1, 1))) (by decide)) <|
  zcons (a := (28, zi_bin (· &&& ·) 29)) (zs_iand (M := 121) (pc := 28) (zd_eq zk121 (by decide +kernel : decode cX6_mostAlike 28 = .ok (.iand, 1)))) <|
  zcons (a := (29, zi_k (.int 1) 30)) (zs_iconst (M := 121) (pc := 29) (zd_eq zk121 (by decide +kernel : decode cX6_mostAlike 29 = .ok (.iconst 1, 1))) (by decide)) <|
  zcons (a := (30, zi_b2 (fun x y => ¬ x = y) 57 33)) (zs_icmpne (M := 121) (pc := 30) (zd_eq zk121 (by decide +kernel : decode cX6_mostAlike 30 = .ok (.if_icmp .ne 27, 3))) (by decide)) <|
  zcons (a := (33, zi_al 0 34)) (zs_al_n (M := 121) (pc := 33) (zd_eq zk121 (by decide +kernel : decode cX6_mostAlike 33 = .ok (.aload_n 0, 1)))) <|
  zcons (a := (34, zi_gr 6 4 37)) (zs_gr (M := 121) (pc := 34) (n := 0) (ci := 6) (k := 4) (C := RX6) (T := TX6) (N := 14) (zd_eq zk121 (by decide +kernel : decode cX6_mostAlike 34 = .ok (.getfield 35, 3))) rfl (by decide) (by decide) zin_6 (zl_f zo121 zw_237)) <|
  zcons (a := (37, zi_il 4 39)) (zs_il_w (M := 121) (pc := 37) (zd_eq zk121 (by decide +kernel : decode cX6_mostAlike 37 = .ok (.iload 4, 2)))) <| znil
theorem zS121_1 : ∀ q ∈ zm_c121_1, zm_Snd 121 q.1 q.2 :=
  zcons (a := (39, zi_qld 7 40)) (zs_qld (M := 121) (pc := 39) (t := 7) rfl (zd_eq zk121 (by decide +kernel : decode cX6_mostAlike 39 = .ok (.aaload, 1)))) <|
  zcons (a := (40, zi_il 2 41)) (zs_il_n (M := 121) (pc := 40) (zd_eq zk121 (by decide +kernel : decode cX6_mostAlike 40 = .ok (.iload_n 2, 1)))) <|
  zcons (a := (41, zi_ald 0 42)) (zs_iald (M := 121) (pc := 41) (zd_eq zk121 (by decide +kernel : decode cX6_mostAlike 41 = .ok (.iaload, 1)))) <|
  zcons (a := (42, zi_al 0 43)) (zs_al_n (M := 121) (pc := 42) (zd_eq zk121 (by decide +kernel : decode cX6_mostAlike 42 = .ok (.aload_n 0, 1)))) <|
  zcons (a := (43, zi_gr 6 4 46)) (zs_gr (M := 121) (pc := 43) (n := 0) (ci := 6) (k := 4) (C := RX6) (T := TX6) (N := 14) (zd_eq zk121 (by decide +kernel : decode cX6_mostAlike 43 = .ok (.getfield 35, 3))) rfl (by decide) (by decide) zin_6 (zl_f zo121 zw_237)) <|
  zcons (a := (46, zi_il 6 48)) (zs_il_w (M := 121) (pc := 46) (zd_eq zk121 (by decide +kernel : decode cX6_mostAlike 46 = .ok (.iload 6, 2)))) <|
  zcons (a := (48, zi_qld 7 49)) (zs_qld (M := 121) (pc := 48) (t := 7) rfl (zd_eq zk121 (by decide +kernel : decode cX6_mostAlike 48 = .ok (.aaload, 1)))) <|
  zcons (a := (49, zi_il 2 50)) (zs_il_n (M := 121) (pc := 49) (zd_eq zk121 (by decide +kernel : decode cX6_mostAlike 49 = .ok (.iload_n 2, 1)))) <|
  zcons (a := (50, zi_ald 0 51)) (zs_iald (M := 121) (pc := 50) (zd_eq zk121 (by decide +kernel : decode cX6_mostAlike 50 = .ok (.iaload, 1)))) <|
  zcons (a := (51, zi_b2 (fun x y => ¬ x = y) 57 54)) (zs_icmpne (M := 121) (pc := 51) (zd_eq zk121 (by decide +kernel : decode cX6_mostAlike 51 = .ok (.if_icmp .ne 6, 3))) (by decide)) <|
  zcons (a := (54, zi_inc 5 1 57)) (zs_inc (M := 121) (pc := 54) (zd_eq zk121 (by decide +kernel : decode cX6_mostAlike 54 = .ok (.iinc 5 1, 3))) (by decide) (by decide +kernel) (by decide +kernel)) <|
  zcons (a := (57, zi_inc 6 1 60)) (zs_inc (M := 121) (pc := 57) (zd_eq zk121 (by decide +kernel : decode cX6_mostAlike 57 = .ok (.iinc 6 1, 3))) (by decide) (by decide +kernel) (by decide +kernel)) <|
  zcons (a := (60, zi_go 17)) (zs_goto (M := 121) (pc := 60) (zd_eq zk121 (by decide +kernel : decode cX6_mostAlike 60 = .ok (.goto (-43), 3))) (by decide)) <|
  zcons (a := (63, zi_il 3 64)) (zs_il_n (M := 121) (pc := 63) (zd_eq zk121 (by decide +kernel : decode cX6_mostAlike 63 = .ok (.iload_n 3, 1)))) <|
  zcons (a := (64, zi_il 5 66)) (zs_il_w (M := 121) (pc := 64) (zd_eq zk121 (by decide +kernel : decode cX6_mostAlike 64 = .ok (.iload 5, 2)))) <|
  zcons (a := (66, zi_m2 (fun x y => if x < y then y else x) 69)) (zs_max (M := 121) (pc := 66) (zd_eq zk121 (by decide +kernel : decode cX6_mostAlike 66 = .ok (.invokestatic 306, 3))) (zl_mo zo121 zw_705) zw_551 zw_63 zw_552) <|
  zcons (a := (69, zi_is 3 70)) (zs_is_n (M := 121) (pc := 69) (zd_eq zk121 (by decide +kernel : decode cX6_mostAlike 69 = .ok (.istore_n 3, 1))) (by decide +kernel) (by decide +kernel)) <|
  zcons (a := (70, zi_inc 4 1 73)) (zs_inc (M := 121) (pc := 70) (zd_eq zk121 (by decide +kernel : decode cX6_mostAlike 70 = .ok (.iinc 4 1, 3))) (by decide) (by decide +kernel) (by decide +kernel)) <|
  zcons (a := (73, zi_go 5)) (zs_goto (M := 121) (pc := 73) (zd_eq zk121 (by decide +kernel : decode cX6_mostAlike 73 = .ok (.goto (-68), 3))) (by decide)) <|
  zcons (a := (76, zi_il 3 77)) (zs_il_n (M := 121) (pc := 76) (zd_eq zk121 (by decide +kernel : decode cX6_mostAlike 76 = .ok (.iload_n 3, 1)))) <|
  zcons (a := (77, zi_ri)) (zs_ri (M := 121) (pc := 77) (zd_eq zk121 (by decide +kernel : decode cX6_mostAlike 77 = .ok (.ireturn, 1))) rfl) <| znil
theorem zS121 : ∀ pc, zm_Snd 121 pc (zm_lk2 zm_c121 pc) := zlk2 (zcons2 zS121_0 (zcons2 zS121_1 (znil2)))
