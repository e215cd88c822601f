set_option maxRecDepth 100000 in
theorem zS122_0 : ∀ q ∈ zm_c122_0, zm_Snd 122 q.1 q.2 :=
  zcons (a := (0, zi_al 0 1)) (zs_al_n (M := 122) (pc := 0) (zd_eq zk122 (by decide +kernel : decode cX7_init 0 = .ok (.aload_n 0, 1)))) <|
  zcons (a := (1, zi_oi 4)) (zs_oi (M := 122) (pc := 1) (zd_eq zk122 (by decide +kernel : decode cX7_init 1 = .ok (.invokespecial 1, 3))) (zl_mo zo122 zw_795) zw_71 zw_72) <|
  zcons (a := (4, zi_al 0 5)) (zs_al_n (M := 122) (pc := 4) (zd_eq zk122 (by decide +kernel : decode cX7_init 4 = .ok (.aload_n 0, 1)))) <|
  zcons (a := (5, zi_k (.int 186) 8)) (zs_sipush (M := 122) (pc := 5) (zd_eq zk122 (by decide +kernel : decode cX7_init 5 = .ok (.sipush 186, 3))) (by decide)) <|
  zcons (a := (8, zi_na 0 10)) (zs_na (M := 122) (pc := 8) (t := 0) (at_ := .int) (zd_eq zk122 (by decide +kernel : decode cX7_init 8 = .ok (.newarray .int, 2))) rfl zw_141 rfl (by decide)) <|
  zcons (a := (10, zi_pr 7 0 13)) (zs_pr (M := 122) (pc := 10) (ci := 7) (k := 0) (C := RX7) (T := TX7) (N := 26) (ty0 := tyX7) (zd_eq zk122 (by decide +kernel : decode cX7_init 10 = .ok (.putfield 7, 3))) rfl (by decide) (by decide) zin_7 (zl_f zo122 zw_796) tyX7_ok nmX7 rfl (by rw [zy122]; rfl) (by rw [zo122]; rfl) (tyX7_ok 0 (by decide)) (fun _ => rfl) (fun _ => rfl)) <|
  zcons (a := (13, zi_al 0 14)) (zs_al_n (M := 122) (pc := 13) (zd_eq zk122 (by decide +kernel : decode cX7_init 13 = .ok (.aload_n 0, 1)))) <|
  zcons (a := (14, zi_k (.int 31) 16)) (zs_bipush (M := 122) (pc := 14) (zd_eq zk122 (by decide +kernel : decode cX7_init 14 = .ok (.bipush 31, 2))) (by decide)) <|
  zcons (a := (16, zi_na 0 18)) (zs_na (M := 122) (pc := 16) (t := 0) (at_ := .int) (zd_eq zk122 (by decide +kernel : decode cX7_init 16 = .ok (.newarray .int, 2))) rfl zw_141 rfl (by decide)) <|
  zcons (a := (18, zi_pr 7 1 21)) (zs_pr (M := 122) (pc := 18) (ci := 7) (k := 1) (C := RX7) (T := TX7) (N := 26) (ty0 := tyX7) (zd_eq zk122 (by decide +kernel : decode cX7_init 18 = .ok (.putfield 13, 3))) rfl (by decide) (by decide) zin_7 (zl_f zo122 zw_797) tyX7_ok nmX7 rfl (by rw [zy122]; rfl) (by rw [zo122]; rfl) (tyX7_ok 1 (by decide)) (fun _ => rfl) (fun _ => rfl)) <|
  zcons (a := (21, zi_al 0 22)) (zs_al_n (M := 122) (pc := 21) (zd_eq zk122 (by decide +kernel : decode cX7_init 21 = .ok (.aload_n 0, 1)))) <|
  zcons (a := (22, zi_k (.int 160) 25)) (zs_sipush (M := 122) (pc := 22) (zd_eq zk122 (by decide +kernel : decode cX7_init 22 = .ok (.sipush 160, 3))) (by decide)) <|
  zcons (a := (25, zi_na 0 27)) (zs_na (M := 122) (pc := 25) (t := 0) (at_ := .int) (zd_eq zk122 (by decide +kernel : decode cX7_init 25 = .ok (.newarray .int, 2))) rfl zw_141 rfl (by decide)) <|
  zcons (a := (27, zi_pr 7 3 30)) (zs_pr (M := 122) (pc := 27) (ci := 7) (k := 3) (C := RX7) (T := TX7) (N := 26) (ty0 := tyX7) (zd_eq zk122 (by decide +kernel : decode cX7_init 27 = .ok (.putfield 16, 3))) rfl (by decide) (by decide) zin_7 (zl_f zo122 zw_799) tyX7_ok nmX7 rfl (by rw [zy122]; rfl) (by rw [zo122]; rfl) (tyX7_ok 3 (by decide)) (fun _ => rfl) (fun _ => rfl)) <|
  zcons (a := (30, zi_al 0 31)) (zs_al_n (M := 122) (pc := 30) (zd_eq zk122 (by decide +kernel : decode cX7_init 30 = .ok (.aload_n 0, 1)))) <|
  zcons (a := (31, zi_k (.int 6) 33)) (zs_bipush (M := 122) (pc := 31) (zd_eq zk122 (by decide +kernel : decode cX7_init 31 = .ok (.bipush 6, 2))) (by decide)) <|
  zcons (a := (33, zi_na 0 35)) (zs_na (M := 122) (pc := 33) (t := 0) (at_ := .int) (zd_eq zk122 (by decide +kernel : decode cX7_init 33 = .ok (.newarray .int, 2))) rfl zw_141 rfl (by decide)) <|
  zcons (a := (35, zi_dup 36)) (zs_dup (M := 122) (pc := 35) (zd_eq zk122 (by decide +kernel : decode cX7_init 35 = .ok (.dup, 1)))) <|
  zcons (a := (36, zi_k (.int 0) 37)) (zs_iconst (M := 122) (pc := 36) (zd_eq zk122 (by decide +kernel : decode cX7_init 36 = .ok (.iconst 0, 1))) (by decide)) <|
  zcons (a := (37, zi_k (.int 0) 38)) (zs_iconst (M := 122) (pc := 37) (zd_eq zk122 (by decide +kernel : decode cX7_init 37 = .ok (.iconst 0, 1))) (by decide)) <|
  zcons (a := (38, zi_ast 0 (fun x => x) 39)) (zs_iast (M := 122) (pc := 38) (zd_eq zk122 (by decide +kernel : decode cX7_init 38 = .ok (.iastore, 1)))) <|
  zcons (a := (39, zi_dup 40)) (zs_dup (M := 122) (pc := 39) (zd_eq zk122 (by decide +kernel : decode cX7_init 39 = .ok (.dup, 1)))) <|
  zcons (a := (40, zi_k (.int 1) 41)) (zs_iconst (M := 122) (pc := 40) (zd_eq zk122 (by decide +kernel : decode cX7_init 40 = .ok (.iconst 1, 1))) (by decide)) <|
  zcons (a := (41, zi_k (.int 6) 43)) (zs_bipush (M := 122) (pc := 41) (zd_eq zk122 (by decide +kernel : decode cX7_init 41 = .ok (.bipush 6, 2))) (by decide)) <| znil
set_option maxRecDepth 100000 in
theorem zS122_1 : ∀ q ∈ zm_c122_1, zm_Snd 122 q.1 q.2 :=
  zcons (a := (43, zi_ast 0 (fun x => x) 44)) (zs_iast (M := 122) (pc := 43) (zd_eq zk122 (by decide +kernel : decode cX7_init 43 = .ok (.iastore, 1)))) <|
  zcons (a := (44, zi_dup 45)) (zs_dup (M := 122) (pc := 44) (zd_eq zk122 (by decide +kernel : decode cX7_init 44 = .ok (.dup, 1)))) <|
  zcons (a := (45, zi_k (.int 2) 46)) (zs_iconst (M := 122) (pc := 45) (zd_eq zk122 (by decide +kernel : decode cX7_init 45 = .ok (.iconst 2, 1))) (by decide)) <|
  zcons (a := (46, zi_k (.int 12) 48)) (zs_bipush (M := 122) (pc := 46) (zd_eq zk122 (by decide +kernel : decode cX7_init 46 = .ok (.bipush 12, 2))) (by decide)) <|
  zcons (a := (48, zi_ast 0 (fun x => x) 49)) (zs_iast (M := 122) (pc := 48) (zd_eq zk122 (by decide +kernel : decode cX7_init 48 = .ok (.iastore, 1)))) <|
  zcons (a := (49, zi_dup 50)) (zs_dup (M := 122) (pc := 49) (zd_eq zk122 (by decide +kernel : decode cX7_init 49 = .ok (.dup, 1)))) <|
  zcons (a := (50, zi_k (.int 3) 51)) (zs_iconst (M := 122) (pc := 50) (zd_eq zk122 (by decide +kernel : decode cX7_init 50 = .ok (.iconst 3, 1))) (by decide)) <|
  zcons (a := (51, zi_k (.int 15) 53)) (zs_bipush (M := 122) (pc := 51) (zd_eq zk122 (by decide +kernel : decode cX7_init 51 = .ok (.bipush 15, 2))) (by decide)) <|
  zcons (a := (53, zi_ast 0 (fun x => x) 54)) (zs_iast (M := 122) (pc := 53) (zd_eq zk122 (by decide +kernel : decode cX7_init 53 = .ok (.iastore, 1)))) <|
  zcons (a := (54, zi_dup 55)) (zs_dup (M := 122) (pc := 54) (zd_eq zk122 (by decide +kernel : decode cX7_init 54 = .ok (.dup, 1)))) <|
  zcons (a := (55, zi_k (.int 4) 56)) (zs_iconst (M := 122) (pc := 55) (zd_eq zk122 (by decide +kernel : decode cX7_init 55 = .ok (.iconst 4, 1))) (by decide)) <|
  zcons (a := (56, zi_k (.int 19) 58)) (zs_bipush (M := 122) (pc := 56) (zd_eq zk122 (by decide +kernel : decode cX7_init 56 = .ok (.bipush 19, 2))) (by decide)) <|
  zcons (a := (58, zi_ast 0 (fun x => x) 59)) (zs_iast (M := 122) (pc := 58) (zd_eq zk122 (by decide +kernel : decode cX7_init 58 = .ok (.iastore, 1)))) <|
  zcons (a := (59, zi_dup 60)) (zs_dup (M := 122) (pc := 59) (zd_eq zk122 (by decide +kernel : decode cX7_init 59 = .ok (.dup, 1)))) <|
  zcons (a := (60, zi_k (.int 5) 61)) (zs_iconst (M := 122) (pc := 60) (zd_eq zk122 (by decide +kernel : decode cX7_init 60 = .ok (.iconst 5, 1))) (by decide)) <|
  zcons (a := (61, zi_k (.int 22) 63)) (zs_bipush (M := 122) (pc := 61) (zd_eq zk122 (by decide +kernel : decode cX7_init 61 = .ok (.bipush 22, 2))) (by decide)) <|
  zcons (a := (63, zi_ast 0 (fun x => x) 64)) (zs_iast (M := 122) (pc := 63) (zd_eq zk122 (by decide +kernel : decode cX7_init 63 = .ok (.iastore, 1)))) <|
  zcons (a := (64, zi_pr 7 12 67)) (zs_pr (M := 122) (pc := 64) (ci := 7) (k := 12) (C := RX7) (T := TX7) (N := 26) (ty0 := tyX7) (zd_eq zk122 (by decide +kernel : decode cX7_init 64 = .ok (.putfield 19, 3))) rfl (by decide) (by decide) zin_7 (zl_f zo122 zw_808) tyX7_ok nmX7 rfl (by rw [zy122]; rfl) (by rw [zo122]; rfl) (tyX7_ok 12 (by decide)) (fun _ => rfl) (fun _ => rfl)) <|
  zcons (a := (67, zi_al 0 68)) (zs_al_n (M := 122) (pc := 67) (zd_eq zk122 (by decide +kernel : decode cX7_init 67 = .ok (.aload_n 0, 1)))) <|
  zcons (a := (68, zi_k (.int 22) 70)) (zs_bipush (M := 122) (pc := 68) (zd_eq zk122 (by decide +kernel : decode cX7_init 68 = .ok (.bipush 22, 2))) (by decide)) <|
  zcons (a := (70, zi_na 0 72)) (zs_na (M := 122) (pc := 70) (t := 0) (at_ := .int) (zd_eq zk122 (by decide +kernel : decode cX7_init 70 = .ok (.newarray .int, 2))) rfl zw_141 rfl (by decide)) <|
  zcons (a := (72, zi_dup 73)) (zs_dup (M := 122) (pc := 72) (zd_eq zk122 (by decide +kernel : decode cX7_init 72 = .ok (.dup, 1)))) <|
  zcons (a := (73, zi_k (.int 0) 74)) (zs_iconst (M := 122) (pc := 73) (zd_eq zk122 (by decide +kernel : decode cX7_init 73 = .ok (.iconst 0, 1))) (by decide)) <|
  zcons (a := (74, zi_k (.int 112) 76)) (zs_bipush (M := 122) (pc := 74) (zd_eq zk122 (by decide +kernel : decode cX7_init 74 = .ok (.bipush 112, 2))) (by decide)) <| znil
set_option maxRecDepth 100000 in
theorem zS122_2 : ∀ q ∈ zm_c122_2, zm_Snd 122 q.1 q.2 :=
  zcons (a := (76, zi_ast 0 (fun x => x) 77)) (zs_iast (M := 122) (pc := 76) (zd_eq zk122 (by decide +kernel : decode cX7_init 76 = .ok (.iastore, 1)))) <|
  zcons (a := (77, zi_dup 78)) (zs_dup (M := 122) (pc := 77) (zd_eq zk122 (by decide +kernel : decode cX7_init 77 = .ok (.dup, 1)))) <|
  zcons (a := (78, zi_k (.int 1) 79)) (zs_iconst (M := 122) (pc := 78) (zd_eq zk122 (by decide +kernel : decode cX7_init 78 = .ok (.iconst 1, 1))) (by decide)) <|
  zcons (a := (79, zi_k (.int 111) 81)) (zs_bipush (M := 122) (pc := 79) (zd_eq zk122 (by decide +kernel : decode cX7_init 79 = .ok (.bipush 111, 2))) (by decide)) <|
  zcons (a := (81, zi_ast 0 (fun x => x) 82)) (zs_iast (M := 122) (pc := 81) (zd_eq zk122 (by decide +kernel : decode cX7_init 81 = .ok (.iastore, 1)))) <|
  zcons (a := (82, zi_dup 83)) (zs_dup (M := 122) (pc := 82) (zd_eq zk122 (by decide +kernel : decode cX7_init 82 = .ok (.dup, 1)))) <|
  zcons (a := (83, zi_k (.int 2) 84)) (zs_iconst (M := 122) (pc := 83) (zd_eq zk122 (by decide +kernel : decode cX7_init 83 = .ok (.iconst 2, 1))) (by decide)) <|
  zcons (a := (84, zi_k (.int 119) 86)) (zs_bipush (M := 122) (pc := 84) (zd_eq zk122 (by decide +kernel : decode cX7_init 84 = .ok (.bipush 119, 2))) (by decide)) <|
  zcons (a := (86, zi_ast 0 (fun x => x) 87)) (zs_iast (M := 122) (pc := 86) (zd_eq zk122 (by decide +kernel : decode cX7_init 86 = .ok (.iastore, 1)))) <|
  zcons (a := (87, zi_dup 88)) (zs_dup (M := 122) (pc := 87) (zd_eq zk122 (by decide +kernel : decode cX7_init 87 = .ok (.dup, 1)))) <|
  zcons (a := (88, zi_k (.int 3) 89)) (zs_iconst (M := 122) (pc := 88) (zd_eq zk122 (by decide +kernel : decode cX7_init 88 = .ok (.iconst 3, 1))) (by decide)) <|
  zcons (a := (89, zi_k (.int 100) 91)) (zs_bipush (M := 122) (pc := 89) (zd_eq zk122 (by decide +kernel : decode cX7_init 89 = .ok (.bipush 100, 2))) (by decide)) <|
  zcons (a := (91, zi_ast 0 (fun x => x) 92)) (zs_iast (M := 122) (pc := 91) (zd_eq zk122 (by decide +kernel : decode cX7_init 91 = .ok (.iastore, 1)))) <|
  zcons (a := (92, zi_dup 93)) (zs_dup (M := 122) (pc := 92) (zd_eq zk122 (by decide +kernel : decode cX7_init 92 = .ok (.dup, 1)))) <|
  zcons (a := (93, zi_k (.int 4) 94)) (zs_iconst (M := 122) (pc := 93) (zd_eq zk122 (by decide +kernel : decode cX7_init 93 = .ok (.iconst 4, 1))) (by decide)) <|
  zcons (a := (94, zi_k (.int 101) 96)) (zs_bipush (M := 122) (pc := 94) (zd_eq zk122 (by decide +kernel : decode cX7_init 94 = .ok (.bipush 101, 2))) (by decide)) <|
  zcons (a := (96, zi_ast 0 (fun x => x) 97)) (zs_iast (M := 122) (pc := 96) (zd_eq zk122 (by decide +kernel : decode cX7_init 96 = .ok (.iastore, 1)))) <|
  zcons (a := (97, zi_dup 98)) (zs_dup (M := 122) (pc := 97) (zd_eq zk122 (by decide +kernel : decode cX7_init 97 = .ok (.dup, 1)))) <|
  zcons (a := (98, zi_k (.int 5) 99)) (zs_iconst (M := 122) (pc := 98) (zd_eq zk122 (by decide +kernel : decode cX7_init 98 = .ok (.iconst 5, 1))) (by decide)) <|
  zcons (a := (99, zi_k (.int 114) 101)) (zs_bipush (M := 122) (pc := 99) (zd_eq zk122 (by decide +kernel : decode cX7_init 99 = .ok (.bipush 114, 2))) (by decide)) <|
  zcons (a := (101, zi_ast 0 (fun x => x) 102)) (zs_iast (M := 122) (pc := 101) (zd_eq zk122 (by decide +kernel : decode cX7_init 101 = .ok (.iastore, 1)))) <|
  zcons (a := (102, zi_dup 103)) (zs_dup (M := 122) (pc := 102) (zd_eq zk122 (by decide +kernel : decode cX7_init 102 = .ok (.dup, 1)))) <|
  zcons (a := (103, zi_k (.int 6) 105)) (zs_bipush (M := 122) (pc := 103) (zd_eq zk122 (by decide +kernel : decode cX7_init 103 = .ok (.bipush 6, 2))) (by decide)) <|
  zcons (a := (105, zi_k (.int 112) 107)) (zs_bipush (M := 122) (pc := 105) (zd_eq zk122 (by decide +kernel : decode cX7_init 105 = .ok (.bipush 112, 2))) (by decide)) <| znil
set_option maxRecDepth 100000 in
theorem zS122_3 : ∀ q ∈ zm_c122_3, zm_Snd 122 q.1 q.2 :=
  zcons (a := (107, zi_ast 0 (fun x => x) 108)) (zs_iast (M := 122) (pc := 107) (zd_eq zk122 (by decide +kernel : decode cX7_init 107 = .ok (.iastore, 1)))) <|
  zcons (a := (108, zi_dup 109)) (zs_dup (M := 122) (pc := 108) (zd_eq zk122 (by decide +kernel : decode cX7_init 108 = .ok (.dup, 1)))) <|
  zcons (a := (109, zi_k (.int 7) 111)) (zs_bipush (M := 122) (pc := 109) (zd_eq zk122 (by decide +kernel : decode cX7_init 109 = .ok (.bipush 7, 2))) (by decide)) <|
  zcons (a := (111, zi_k (.int 97) 113)) (zs_bipush (M := 122) (pc := 111) (zd_eq zk122 (by decide +kernel : decode cX7_init 111 = .ok (.bipush 97, 2))) (by decide)) <|
  zcons (a := (113, zi_ast 0 (fun x => x) 114)) (zs_iast (M := 122) (pc := 113) (zd_eq zk122 (by decide +kernel : decode cX7_init 113 = .ok (.iastore, 1)))) <|
  zcons (a := (114, zi_dup 115)) (zs_dup (M := 122) (pc := 114) (zd_eq zk122 (by decide +kernel : decode cX7_init 114 = .ok (.dup, 1)))) <|
  zcons (a := (115, zi_k (.int 8) 117)) (zs_bipush (M := 122) (pc := 115) (zd_eq zk122 (by decide +kernel : decode cX7_init 115 = .ok (.bipush 8, 2))) (by decide)) <|
  zcons (a := (117, zi_k (.int 99) 119)) (zs_bipush (M := 122) (pc := 117) (zd_eq zk122 (by decide +kernel : decode cX7_init 117 = .ok (.bipush 99, 2))) (by decide)) <|
  zcons (a := (119, zi_ast 0 (fun x => x) 120)) (zs_iast (M := 122) (pc := 119) (zd_eq zk122 (by decide +kernel : decode cX7_init 119 = .ok (.iastore, 1)))) <|
  zcons (a := (120, zi_dup 121)) (zs_dup (M := 122) (pc := 120) (zd_eq zk122 (by decide +kernel : decode cX7_init 120 = .ok (.dup, 1)))) <|
  zcons (a := (121, zi_k (.int 9) 123)) (zs_bipush (M := 122) (pc := 121) (zd_eq zk122 (by decide +kernel : decode cX7_init 121 = .ok (.bipush 9, 2))) (by decide)) <|
  zcons (a := (123, zi_k (.int 107) 125)) (zs_bipush (M := 122) (pc := 123) (zd_eq zk122 (by decide +kernel : decode cX7_init 123 = .ok (.bipush 107, 2))) (by decide)) <|
  zcons (a := (125, zi_ast 0 (fun x => x) 126)) (zs_iast (M := 122) (pc := 125) (zd_eq zk122 (by decide +kernel : decode cX7_init 125 = .ok (.iastore, 1)))) <|
  zcons (a := (126, zi_dup 127)) (zs_dup (M := 122) (pc := 126) (zd_eq zk122 (by decide +kernel : decode cX7_init 126 = .ok (.dup, 1)))) <|
  zcons (a := (127, zi_k (.int 10) 129)) (zs_bipush (M := 122) (pc := 127) (zd_eq zk122 (by decide +kernel : decode cX7_init 127 = .ok (.bipush 10, 2))) (by decide)) <|
  zcons (a := (129, zi_k (.int 101) 131)) (zs_bipush (M := 122) (pc := 129) (zd_eq zk122 (by decide +kernel : decode cX7_init 129 = .ok (.bipush 101, 2))) (by decide)) <|
  zcons (a := (131, zi_ast 0 (fun x => x) 132)) (zs_iast (M := 122) (pc := 131) (zd_eq zk122 (by decide +kernel : decode cX7_init 131 = .ok (.iastore, 1)))) <|
  zcons (a := (132, zi_dup 133)) (zs_dup (M := 122) (pc := 132) (zd_eq zk122 (by decide +kernel : decode cX7_init 132 = .ok (.dup, 1)))) <|
  zcons (a := (133, zi_k (.int 11) 135)) (zs_bipush (M := 122) (pc := 133) (zd_eq zk122 (by decide +kernel : decode cX7_init 133 = .ok (.bipush 11, 2))) (by decide)) <|
  zcons (a := (135, zi_k (.int 100) 137)) (zs_bipush (M := 122) (pc := 135) (zd_eq zk122 (by decide +kernel : decode cX7_init 135 = .ok (.bipush 100, 2))) (by decide)) <|
  zcons (a := (137, zi_ast 0 (fun x => x) 138)) (zs_iast (M := 122) (pc := 137) (zd_eq zk122 (by decide +kernel : decode cX7_init 137 = .ok (.iastore, 1)))) <|
  zcons (a := (138, zi_dup 139)) (zs_dup (M := 122) (pc := 138) (zd_eq zk122 (by decide +kernel : decode cX7_init 138 = .ok (.dup, 1)))) <|
  zcons (a := (139, zi_k (.int 12) 141)) (zs_bipush (M := 122) (pc := 139) (zd_eq zk122 (by decide +kernel : decode cX7_init 139 = .ok (.bipush 12, 2))) (by decide)) <|
  zcons (a := (141, zi_k (.int 119) 143)) (zs_bipush (M := 122) (pc := 141) (zd_eq zk122 (by decide +kernel : decode cX7_init 141 = .ok (.bipush 119, 2))) (by decide)) <| znil
set_option maxRecDepth 100000 in
theorem zS122_4 : ∀ q ∈ zm_c122_4, zm_Snd 122 q.1 q.2 :=
  zcons (a := (143, zi_ast 0 (fun x => x) 144)) (zs_iast (M := 122) (pc := 143) (zd_eq zk122 (by decide +kernel : decode cX7_init 143 = .ok (.iastore, 1)))) <|
  zcons (a := (144, zi_dup 145)) (zs_dup (M := 122) (pc := 144) (zd_eq zk122 (by decide +kernel : decode cX7_init 144 = .ok (.dup, 1)))) <|
  zcons (a := (145, zi_k (.int 13) 147)) (zs_bipush (M := 122) (pc := 145) (zd_eq zk122 (by decide +kernel : decode cX7_init 145 = .ok (.bipush 13, 2))) (by decide)) <|
  zcons (a := (147, zi_k (.int 101) 149)) (zs_bipush (M := 122) (pc := 147) (zd_eq zk122 (by decide +kernel : decode cX7_init 147 = .ok (.bipush 101, 2))) (by decide)) <|
  zcons (a := (149, zi_ast 0 (fun x => x) 150)) (zs_iast (M := 122) (pc := 149) (zd_eq zk122 (by decide +kernel : decode cX7_init 149 = .ok (.iastore, 1)))) <|
  zcons (a := (150, zi_dup 151)) (zs_dup (M := 122) (pc := 150) (zd_eq zk122 (by decide +kernel : decode cX7_init 150 = .ok (.dup, 1)))) <|
  zcons (a := (151, zi_k (.int 14) 153)) (zs_bipush (M := 122) (pc := 151) (zd_eq zk122 (by decide +kernel : decode cX7_init 151 = .ok (.bipush 14, 2))) (by decide)) <|
  zcons (a := (153, zi_k (.int 116) 155)) (zs_bipush (M := 122) (pc := 153) (zd_eq zk122 (by decide +kernel : decode cX7_init 153 = .ok (.bipush 116, 2))) (by decide)) <|
  zcons (a := (155, zi_ast 0 (fun x => x) 156)) (zs_iast (M := 122) (pc := 155) (zd_eq zk122 (by decide +kernel : decode cX7_init 155 = .ok (.iastore, 1)))) <|
  zcons (a := (156, zi_dup 157)) (zs_dup (M := 122) (pc := 156) (zd_eq zk122 (by decide +kernel : decode cX7_init 156 = .ok (.dup, 1)))) <|
  zcons (a := (157, zi_k (.int 15) 159)) (zs_bipush (M := 122) (pc := 157) (zd_eq zk122 (by decide +kernel : decode cX7_init 157 = .ok (.bipush 15, 2))) (by decide)) <|
  zcons (a := (159, zi_k (.int 105) 161)) (zs_bipush (M := 122) (pc := 159) (zd_eq zk122 (by decide +kernel : decode cX7_init 159 = .ok (.bipush 105, 2))) (by decide)) <|
  zcons (a := (161, zi_ast 0 (fun x => x) 162)) (zs_iast (M := 122) (pc := 161) (zd_eq zk122 (by decide +kernel : decode cX7_init 161 = .ok (.iastore, 1)))) <|
  zcons (a := (162, zi_dup 163)) (zs_dup (M := 122) (pc := 162) (zd_eq zk122 (by decide +kernel : decode cX7_init 162 = .ok (.dup, 1)))) <|
  zcons (a := (163, zi_k (.int 16) 165)) (zs_bipush (M := 122) (pc := 163) (zd_eq zk122 (by decide +kernel : decode cX7_init 163 = .ok (.bipush 16, 2))) (by decide)) <|
  zcons (a := (165, zi_k (.int 99) 167)) (zs_bipush (M := 122) (pc := 165) (zd_eq zk122 (by decide +kernel : decode cX7_init 165 = .ok (.bipush 99, 2))) (by decide)) <|
  zcons (a := (167, zi_ast 0 (fun x => x) 168)) (zs_iast (M := 122) (pc := 167) (zd_eq zk122 (by decide +kernel : decode cX7_init 167 = .ok (.iastore, 1)))) <|
  zcons (a := (168, zi_dup 169)) (zs_dup (M := 122) (pc := 168) (zd_eq zk122 (by decide +kernel : decode cX7_init 168 = .ok (.dup, 1)))) <|
  zcons (a := (169, zi_k (.int 17) 171)) (zs_bipush (M := 122) (pc := 169) (zd_eq zk122 (by decide +kernel : decode cX7_init 169 = .ok (.bipush 17, 2))) (by decide)) <|
  zcons (a := (171, zi_k (.int 101) 173)) (zs_bipush (M := 122) (pc := 171) (zd_eq zk122 (by decide +kernel : decode cX7_init 171 = .ok (.bipush 101, 2))) (by decide)) <|
  zcons (a := (173, zi_ast 0 (fun x => x) 174)) (zs_iast (M := 122) (pc := 173) (zd_eq zk122 (by decide +kernel : decode cX7_init 173 = .ok (.iastore, 1)))) <|
  zcons (a := (174, zi_dup 175)) (zs_dup (M := 122) (pc := 174) (zd_eq zk122 (by decide +kernel : decode cX7_init 174 = .ok (.dup, 1)))) <|
  zcons (a := (175, zi_k (.int 18) 177)) (zs_bipush (M := 122) (pc := 175) (zd_eq zk122 (by decide +kernel : decode cX7_init 175 = .ok (.bipush 18, 2))) (by decide)) <|
  zcons (a := (177, zi_k (.int 100) 179)) (zs_bipush (M := 122) (pc := 177) (zd_eq zk122 (by decide +kernel : decode cX7_init 177 = .ok (.bipush 100, 2))) (by decide)) <| znil
set_option maxRecDepth 100000 in
theorem zS122_5 : ∀ q ∈ zm_c122_5, zm_Snd 122 q.1 q.2 :=
  zcons (a := (179, zi_ast 0 (fun x => x) 180)) (zs_iast (M := 122) (pc := 179) (zd_eq zk122 (by decide +kernel : decode cX7_init 179 = .ok (.iastore, 1)))) <|
  zcons (a := (180, zi_dup 181)) (zs_dup (M := 122) (pc := 180) (zd_eq zk122 (by decide +kernel : decode cX7_init 180 = .ok (.dup, 1)))) <|
  zcons (a := (181, zi_k (.int 19) 183)) (zs_bipush (M := 122) (pc := 181) (zd_eq zk122 (by decide +kernel : decode cX7_init 181 = .ok (.bipush 19, 2))) (by decide)) <|
  zcons (a := (183, zi_k (.int 100) 185)) (zs_bipush (M := 122) (pc := 183) (zd_eq zk122 (by decide +kernel : decode cX7_init 183 = .ok (.bipush 100, 2))) (by decide)) <|
  zcons (a := (185, zi_ast 0 (fun x => x) 186)) (zs_iast (M := 122) (pc := 185) (zd_eq zk122 (by decide +kernel : decode cX7_init 185 = .ok (.iastore, 1)))) <|
  zcons (a := (186, zi_dup 187)) (zs_dup (M := 122) (pc := 186) (zd_eq zk122 (by decide +kernel : decode cX7_init 186 = .ok (.dup, 1)))) <|
  zcons (a := (187, zi_k (.int 20) 189)) (zs_bipush (M := 122) (pc := 187) (zd_eq zk122 (by decide +kernel : decode cX7_init 187 = .ok (.bipush 20, 2))) (by decide)) <|
  zcons (a := (189, zi_k (.int 97) 191)) (zs_bipush (M := 122) (pc := 189) (zd_eq zk122 (by decide +kernel : decode cX7_init 189 = .ok (.bipush 97, 2))) (by decide)) <|
  zcons (a := (191, zi_ast 0 (fun x => x) 192)) (zs_iast (M := 122) (pc := 191) (zd_eq zk122 (by decide +kernel : decode cX7_init 191 = .ok (.iastore, 1)))) <|
  zcons (a := (192, zi_dup 193)) (zs_dup (M := 122) (pc := 192) (zd_eq zk122 (by decide +kernel : decode cX7_init 192 = .ok (.dup, 1)))) <|
  zcons (a := (193, zi_k (.int 21) 195)) (zs_bipush (M := 122) (pc := 193) (zd_eq zk122 (by decide +kernel : decode cX7_init 193 = .ok (.bipush 21, 2))) (by decide)) <|
  zcons (a := (195, zi_k (.int 121) 197)) (zs_bipush (M := 122) (pc := 195) (zd_eq zk122 (by decide +kernel : decode cX7_init 195 = .ok (.bipush 121, 2))) (by decide)) <|
  zcons (a := (197, zi_ast 0 (fun x => x) 198)) (zs_iast (M := 122) (pc := 197) (zd_eq zk122 (by decide +kernel : decode cX7_init 197 = .ok (.iastore, 1)))) <|
  zcons (a := (198, zi_pr 7 13 201)) (zs_pr (M := 122) (pc := 198) (ci := 7) (k := 13) (C := RX7) (T := TX7) (N := 26) (ty0 := tyX7) (zd_eq zk122 (by decide +kernel : decode cX7_init 198 = .ok (.putfield 22, 3))) rfl (by decide) (by decide) zin_7 (zl_f zo122 zw_809) tyX7_ok nmX7 rfl (by rw [zy122]; rfl) (by rw [zo122]; rfl) (tyX7_ok 13 (by decide)) (fun _ => rfl) (fun _ => rfl)) <|
  zcons (a := (201, zi_al 0 202)) (zs_al_n (M := 122) (pc := 201) (zd_eq zk122 (by decide +kernel : decode cX7_init 201 = .ok (.aload_n 0, 1)))) <|
  zcons (a := (202, zi_k (.int 5) 203)) (zs_iconst (M := 122) (pc := 202) (zd_eq zk122 (by decide +kernel : decode cX7_init 202 = .ok (.iconst 5, 1))) (by decide)) <|
  zcons (a := (203, zi_na 0 205)) (zs_na (M := 122) (pc := 203) (t := 0) (at_ := .int) (zd_eq zk122 (by decide +kernel : decode cX7_init 203 = .ok (.newarray .int, 2))) rfl zw_141 rfl (by decide)) <|
  zcons (a := (205, zi_pr 7 17 208)) (zs_pr (M := 122) (pc := 205) (ci := 7) (k := 17) (C := RX7) (T := TX7) (N := 26) (ty0 := tyX7) (zd_eq zk122 (by decide +kernel : decode cX7_init 205 = .ok (.putfield 25, 3))) rfl (by decide) (by decide) zin_7 (zl_f zo122 zw_813) tyX7_ok nmX7 rfl (by rw [zy122]; rfl) (by rw [zo122]; rfl) (tyX7_ok 17 (by decide)) (fun _ => rfl) (fun _ => rfl)) <|
  zcons (a := (208, zi_al 0 209)) (zs_al_n (M := 122) (pc := 208) (zd_eq zk122 (by decide +kernel : decode cX7_init 208 = .ok (.aload_n 0, 1)))) <|
  zcons (a := (209, zi_k (.int 12) 211)) (zs_bipush (M := 122) (pc := 209) (zd_eq zk122 (by decide +kernel : decode cX7_init 209 = .ok (.bipush 12, 2))) (by decide)) <|
  zcons (a := (211, zi_na 0 213)) (zs_na (M := 122) (pc := 211) (t := 0) (at_ := .int) (zd_eq zk122 (by decide +kernel : decode cX7_init 211 = .ok (.newarray .int, 2))) rfl zw_141 rfl (by decide)) <|
  zcons (a := (213, zi_pr 7 18 216)) (zs_pr (M := 122) (pc := 213) (ci := 7) (k := 18) (C := RX7) (T := TX7) (N := 26) (ty0 := tyX7) (zd_eq zk122 (by decide +kernel : decode cX7_init 213 = .ok (.putfield 28, 3))) rfl (by decide) (by decide) zin_7 (zl_f zo122 zw_814) tyX7_ok nmX7 rfl (by rw [zy122]; rfl) (by rw [zo122]; rfl) (tyX7_ok 18 (by decide)) (fun _ => rfl) (fun _ => rfl)) <|
  zcons (a := (216, zi_al 0 217)) (zs_al_n (M := 122) (pc := 216) (zd_eq zk122 (by decide +kernel : decode cX7_init 216 = .ok (.aload_n 0, 1)))) <|
  zcons (a := (217, zi_k (.int 124) 219)) (zs_bipush (M := 122) (pc := 217) (zd_eq zk122 (by decide +kernel : decode cX7_init 217 = .ok (.bipush 124, 2))) (by decide)) <| znil
set_option maxRecDepth 100000 in
theorem zS122_6 : ∀ q ∈ zm_c122_6, zm_Snd 122 q.1 q.2 :=
  zcons (a := (219, zi_na 0 221)) (zs_na (M := 122) (pc := 219) (t := 0) (at_ := .int) (zd_eq zk122 (by decide +kernel : decode cX7_init 219 = .ok (.newarray .int, 2))) rfl zw_141 rfl (by decide)) <|
  zcons (a := (221, zi_pr 7 20 224)) (zs_pr (M := 122) (pc := 221) (ci := 7) (k := 20) (C := RX7) (T := TX7) (N := 26) (ty0 := tyX7) (zd_eq zk122 (by decide +kernel : decode cX7_init 221 = .ok (.putfield 31, 3))) rfl (by decide) (by decide) zin_7 (zl_f zo122 zw_816) tyX7_ok nmX7 rfl (by rw [zy122]; rfl) (by rw [zo122]; rfl) (tyX7_ok 20 (by decide)) (fun _ => rfl) (fun _ => rfl)) <|
  zcons (a := (224, zi_al 0 225)) (zs_al_n (M := 122) (pc := 224) (zd_eq zk122 (by decide +kernel : decode cX7_init 224 = .ok (.aload_n 0, 1)))) <|
  zcons (a := (225, zi_k (.int 2) 226)) (zs_iconst (M := 122) (pc := 225) (zd_eq zk122 (by decide +kernel : decode cX7_init 225 = .ok (.iconst 2, 1))) (by decide)) <|
  zcons (a := (226, zi_na 2 228)) (zs_na (M := 122) (pc := 226) (t := 2) (at_ := .boolean) (zd_eq zk122 (by decide +kernel : decode cX7_init 226 = .ok (.newarray .boolean, 2))) rfl zw_232 rfl (by decide)) <|
  zcons (a := (228, zi_pr 7 21 231)) (zs_pr (M := 122) (pc := 228) (ci := 7) (k := 21) (C := RX7) (T := TX7) (N := 26) (ty0 := tyX7) (zd_eq zk122 (by decide +kernel : decode cX7_init 228 = .ok (.putfield 34, 3))) rfl (by decide) (by decide) zin_7 (zl_f zo122 zw_817) tyX7_ok nmX7 rfl (by rw [zy122]; rfl) (by rw [zo122]; rfl) (tyX7_ok 21 (by decide)) (fun _ => rfl) (fun _ => rfl)) <|
  zcons (a := (231, zi_al 0 232)) (zs_al_n (M := 122) (pc := 231) (zd_eq zk122 (by decide +kernel : decode cX7_init 231 = .ok (.aload_n 0, 1)))) <|
  zcons (a := (232, zi_k (.int 4) 233)) (zs_iconst (M := 122) (pc := 232) (zd_eq zk122 (by decide +kernel : decode cX7_init 232 = .ok (.iconst 4, 1))) (by decide)) <|
  zcons (a := (233, zi_na 0 235)) (zs_na (M := 122) (pc := 233) (t := 0) (at_ := .int) (zd_eq zk122 (by decide +kernel : decode cX7_init 233 = .ok (.newarray .int, 2))) rfl zw_141 rfl (by decide)) <|
  zcons (a := (235, zi_dup 236)) (zs_dup (M := 122) (pc := 235) (zd_eq zk122 (by decide +kernel : decode cX7_init 235 = .ok (.dup, 1)))) <|
  zcons (a := (236, zi_k (.int 0) 237)) (zs_iconst (M := 122) (pc := 236) (zd_eq zk122 (by decide +kernel : decode cX7_init 236 = .ok (.iconst 0, 1))) (by decide)) <|
  zcons (a := (237, zi_k (.int (-4)) 239)) (zs_bipush (M := 122) (pc := 237) (zd_eq zk122 (by decide +kernel : decode cX7_init 237 = .ok (.bipush (-4), 2))) (by decide)) <|
  zcons (a := (239, zi_ast 0 (fun x => x) 240)) (zs_iast (M := 122) (pc := 239) (zd_eq zk122 (by decide +kernel : decode cX7_init 239 = .ok (.iastore, 1)))) <|
  zcons (a := (240, zi_dup 241)) (zs_dup (M := 122) (pc := 240) (zd_eq zk122 (by decide +kernel : decode cX7_init 240 = .ok (.dup, 1)))) <|
  zcons (a := (241, zi_k (.int 1) 242)) (zs_iconst (M := 122) (pc := 241) (zd_eq zk122 (by decide +kernel : decode cX7_init 241 = .ok (.iconst 1, 1))) (by decide)) <|
  zcons (a := (242, zi_k (.int (-4)) 244)) (zs_bipush (M := 122) (pc := 242) (zd_eq zk122 (by decide +kernel : decode cX7_init 242 = .ok (.bipush (-4), 2))) (by decide)) <|
  zcons (a := (244, zi_ast 0 (fun x => x) 245)) (zs_iast (M := 122) (pc := 244) (zd_eq zk122 (by decide +kernel : decode cX7_init 244 = .ok (.iastore, 1)))) <|
  zcons (a := (245, zi_dup 246)) (zs_dup (M := 122) (pc := 245) (zd_eq zk122 (by decide +kernel : decode cX7_init 245 = .ok (.dup, 1)))) <|
  zcons (a := (246, zi_k (.int 2) 247)) (zs_iconst (M := 122) (pc := 246) (zd_eq zk122 (by decide +kernel : decode cX7_init 246 = .ok (.iconst 2, 1))) (by decide)) <|
  zcons (a := (247, zi_k (.int (-4)) 249)) (zs_bipush (M := 122) (pc := 247) (zd_eq zk122 (by decide +kernel : decode cX7_init 247 = .ok (.bipush (-4), 2))) (by decide)) <|
  zcons (a := (249, zi_ast 0 (fun x => x) 250)) (zs_iast (M := 122) (pc := 249) (zd_eq zk122 (by decide +kernel : decode cX7_init 249 = .ok (.iastore, 1)))) <|
  zcons (a := (250, zi_dup 251)) (zs_dup (M := 122) (pc := 250) (zd_eq zk122 (by decide +kernel : decode cX7_init 250 = .ok (.dup, 1)))) <|
  zcons (a := (251, zi_k (.int 3) 252)) (zs_iconst (M := 122) (pc := 251) (zd_eq zk122 (by decide +kernel : decode cX7_init 251 = .ok (.iconst 3, 1))) (by decide)) <|
  zcons (a := (252, zi_k (.int (-4)) 254)) (zs_bipush (M := 122) (pc := 252) (zd_eq zk122 (by decide +kernel : decode cX7_init 252 = .ok (.bipush (-4), 2))) (by decide)) <| znil
set_option maxRecDepth 100000 in
theorem zS122_7 : ∀ q ∈ zm_c122_7, zm_Snd 122 q.1 q.2 :=
  zcons (a := (254, zi_ast 0 (fun x => x) 255)) (zs_iast (M := 122) (pc := 254) (zd_eq zk122 (by decide +kernel : decode cX7_init 254 = .ok (.iastore, 1)))) <|
  zcons (a := (255, zi_pr 7 22 258)) (zs_pr (M := 122) (pc := 255) (ci := 7) (k := 22) (C := RX7) (T := TX7) (N := 26) (ty0 := tyX7) (zd_eq zk122 (by decide +kernel : decode cX7_init 255 = .ok (.putfield 38, 3))) rfl (by decide) (by decide) zin_7 (zl_f zo122 zw_818) tyX7_ok nmX7 rfl (by rw [zy122]; rfl) (by rw [zo122]; rfl) (tyX7_ok 22 (by decide)) (fun _ => rfl) (fun _ => rfl)) <|
  zcons (a := (258, zi_al 0 259)) (zs_al_n (M := 122) (pc := 258) (zd_eq zk122 (by decide +kernel : decode cX7_init 258 = .ok (.aload_n 0, 1)))) <|
  zcons (a := (259, zi_k (.int 4) 260)) (zs_iconst (M := 122) (pc := 259) (zd_eq zk122 (by decide +kernel : decode cX7_init 259 = .ok (.iconst 4, 1))) (by decide)) <|
  zcons (a := (260, zi_na 0 262)) (zs_na (M := 122) (pc := 260) (t := 0) (at_ := .int) (zd_eq zk122 (by decide +kernel : decode cX7_init 260 = .ok (.newarray .int, 2))) rfl zw_141 rfl (by decide)) <|
  zcons (a := (262, zi_pr 7 23 265)) (zs_pr (M := 122) (pc := 262) (ci := 7) (k := 23) (C := RX7) (T := TX7) (N := 26) (ty0 := tyX7) (zd_eq zk122 (by decide +kernel : decode cX7_init 262 = .ok (.putfield 41, 3))) rfl (by decide) (by decide) zin_7 (zl_f zo122 zw_819) tyX7_ok nmX7 rfl (by rw [zy122]; rfl) (by rw [zo122]; rfl) (tyX7_ok 23 (by decide)) (fun _ => rfl) (fun _ => rfl)) <|
  zcons (a := (265, zi_al 0 266)) (zs_al_n (M := 122) (pc := 265) (zd_eq zk122 (by decide +kernel : decode cX7_init 265 = .ok (.aload_n 0, 1)))) <|
  zcons (a := (266, zi_k (.int 160) 269)) (zs_sipush (M := 122) (pc := 266) (zd_eq zk122 (by decide +kernel : decode cX7_init 266 = .ok (.sipush 160, 3))) (by decide)) <|
  zcons (a := (269, zi_na 0 271)) (zs_na (M := 122) (pc := 269) (t := 0) (at_ := .int) (zd_eq zk122 (by decide +kernel : decode cX7_init 269 = .ok (.newarray .int, 2))) rfl zw_141 rfl (by decide)) <|
  zcons (a := (271, zi_pr 7 24 274)) (zs_pr (M := 122) (pc := 271) (ci := 7) (k := 24) (C := RX7) (T := TX7) (N := 26) (ty0 := tyX7) (zd_eq zk122 (by decide +kernel : decode cX7_init 271 = .ok (.putfield 44, 3))) rfl (by decide) (by decide) zin_7 (zl_f zo122 zw_820) tyX7_ok nmX7 rfl (by rw [zy122]; rfl) (by rw [zo122]; rfl) (tyX7_ok 24 (by decide)) (fun _ => rfl) (fun _ => rfl)) <|
  zcons (a := (274, zi_rv)) (zs_rv (M := 122) (pc := 274) (zd_eq zk122 (by decide +kernel : decode cX7_init 274 = .ok (.return_, 1))) rfl) <| znil
theorem zS122 : ∀ pc, zm_Snd 122 pc (zm_lk2 zm_c122 pc) := zlk2 (zcons2 zS122_0 (zcons2 zS122_1 (zcons2 zS122_2 (zcons2 zS122_3 (zcons2 zS122_4 (zcons2 zS122_5 (zcons2 zS122_6 (zcons2 zS122_7 (znil2)))))))))
theorem zS123_0 : ∀ q ∈ zm_c123_0, zm_Snd 123 q.1 q.2 :=
  zcons (a := (0, zi_ll 0 1)) (zs_ll_n (M := 123) (pc := 0) (zd_eq zk123 (by decide +kernel : decode cX7_in 0 = .ok (.lload_n 0, 1)))) <|
  zcons (a := (1, zi_ll 2 2)) (zs_ll_n (M := 123) (pc := 1) (zd_eq zk123 (by decide +kernel : decode cX7_in 1 = .ok (.lload_n 2, 1)))) <|
  zcons (a := (2, zi_lcmp 3)) (zs_lcmp (M := 123) (pc := 2) (zd_eq zk123 (by decide +kernel : decode cX7_in 2 = .ok (.lcmp, 1)))) <|
  zcons (a := (3, zi_b1 (fun x => x < 0) 17 6)) (zs_iflt (M := 123) (pc := 3) (zd_eq zk123 (by decide +kernel : decode cX7_in 3 = .ok (.ifCond .lt 14, 3))) (by decide)) <|
  zcons (a := (6, zi_ll 0 7)) (zs_ll_n (M := 123) (pc := 6) (zd_eq zk123 (by decide +kernel : decode cX7_in 6 = .ok (.lload_n 0, 1)))) <|
  zcons (a := (7, zi_ll 4 9)) (zs_ll_w (M := 123) (pc := 7) (zd_eq zk123 (by decide +kernel : decode cX7_in 7 = .ok (.lload 4, 2)))) <|
  zcons (a := (9, zi_lcmp 10)) (zs_lcmp (M := 123) (pc := 9) (zd_eq zk123 (by decide +kernel : decode cX7_in 9 = .ok (.lcmp, 1)))) <|
  zcons (a := (10, zi_b1 (fun x => 0 < x) 17 13)) (zs_ifgt (M := 123) (pc := 10) (zd_eq zk123 (by decide +kernel : decode cX7_in 10 = .ok (.ifCond .gt 7, 3))) (by decide)) <|
  zcons (a := (13, zi_k (.int 1) 14)) (zs_iconst (M := 123) (pc := 13) (zd_eq zk123 (by decide +kernel : decode cX7_in 13 = .ok (.iconst 1, 1))) (by decide)) <|
  zcons (a := (14, zi_go 18)) (zs_goto (M := 123) (pc := 14) (zd_eq zk123 (by decide +kernel : decode cX7_in 14 = .ok (.goto 4, 3))) (by decide)) <|
  zcons (a := (17, zi_k (.int 0) 18)) (zs_iconst (M := 123) (pc := 17) (zd_eq zk123 (by decide +kernel : decode cX7_in 17 = .ok (.iconst 0, 1))) (by decide)) <|
  zcons (a := (18, zi_rz)) (zs_rz (M := 123) (pc := 18) (zd_eq zk123 (by decide +kernel : decode cX7_in 18 = .ok (.ireturn, 1))) rfl) <| znil
theorem zS123 : ∀ pc, zm_Snd 123 pc (zm_lk2 zm_c123 pc) := zlk2 (zcons2 zS123_0 (znil2))
theorem zS124_0 : ∀ q ∈ zm_c124_0, zm_Snd 124 q.1 q.2 :=
  zcons (a := (0, zi_il 1 1)) (zs_il_n (M := 124) (pc := 0) (zd_eq zk124 (by decide +kernel : decode cX7_feed 0 = .ok (.iload_n 1, 1)))) <|
  zcons (a := (1, zi_i2l 2)) (zs_i2l (M := 124) (pc := 1) (zd_eq zk124 (by decide +kernel : decode cX7_feed 1 = .ok (.i2l, 1)))) <|
  zcons (a := (2, zi_k (.long 0) 3)) (zs_lconst (M := 124) (pc := 2) (zd_eq zk124 (by decide +kernel : decode cX7_feed 2 = .ok (.lconst 0, 1))) (by decide)) <|
  zcons (a := (3, zi_k (.long 127) 6)) (zs_ldc2 (M := 124) (pc := 3) (zd_eq zk124 (by decide +kernel : decode cX7_feed 3 = .ok (.ldc2_w 47, 3))) (zl_k2 zo124 zw_879)) <|
  zcons (a := (6, zi_cs 123 3 9 1)) (zs_cs (M := 124) (pc := 6) (M' := 123) (k := 3) (kd := 1) (zd_eq zk124 (by decide +kernel : decode cX7_feed 6 = .ok (.invokestatic 49, 3))) zWd123 (zl_m zo124 zy123 zw_880) (zl_s zy123 zw_881)) <|
  zcons (a := (9, zi_b1 (fun x => ¬ x = 0) 14 12)) (zs_ifne (M := 124) (pc := 9) (zd_eq zk124 (by decide +kernel : decode cX7_feed 9 = .ok (.ifCond .ne 5, 3))) (by decide)) <|
  zcons (a := (12, zi_k (.int (-1)) 13)) (zs_iconst (M := 124) (pc := 12) (zd_eq zk124 (by decide +kernel : decode cX7_feed 12 = .ok (.iconst (-1), 1))) (by decide)) <|
  zcons (a := (13, zi_ri)) (zs_ri (M := 124) (pc := 13) (zd_eq zk124 (by decide +kernel : decode cX7_feed 13 = .ok (.ireturn, 1))) rfl) <|
  zcons (a := (14, zi_al 0 15)) (zs_al_n (M := 124) (pc := 14) (zd_eq zk124 (by decide +kernel : decode cX7_feed 14 = .ok (.aload_n 0, 1)))) <|
  zcons (a := (15, zi_gi 7 4 18)) (zs_gi (M := 124) (pc := 15) (n := 0) (ci := 7) (k := 4) (C := RX7) (T := TX7) (N := 26) (zd_eq zk124 (by decide +kernel : decode cX7_feed 15 = .ok (.getfield 53, 3))) rfl (by decide) (by decide) zin_7 (zl_f zo124 zw_800)) <|
  zcons (a := (18, zi_k (.int 160) 21)) (zs_sipush (M := 124) (pc := 18) (zd_eq zk124 (by decide +kernel : decode cX7_feed 18 = .ok (.sipush 160, 3))) (by decide)) <|
  zcons (a := (21, zi_b2 (fun x y => ¬ x = y) 27 24)) (zs_icmpne (M := 124) (pc := 21) (zd_eq zk124 (by decide +kernel : decode cX7_feed 21 = .ok (.if_icmp .ne 6, 3))) (by decide)) <|
  zcons (a := (24, zi_k (.int (-3)) 26)) (zs_bipush (M := 124) (pc := 24) (zd_eq zk124 (by decide +kernel : decode cX7_feed 24 = .ok (.bipush (-3), 2))) (by decide)) <|
  zcons (a := (26, zi_ri)) (zs_ri (M := 124) (pc := 26) (zd_eq zk124 (by decide +kernel : decode cX7_feed 26 = .ok (.ireturn, 1))) rfl) <|
  zcons (a := (27, zi_al 0 28)) (zs_al_n (M := 124) (pc := 27) (zd_eq zk124 (by decide +kernel : decode cX7_feed 27 = .ok (.aload_n 0, 1)))) <|
  zcons (a := (28, zi_gr 7 3 31)) (zs_gr (M := 124) (pc := 28) (n := 0) (ci := 7) (k := 3) (C := RX7) (T := TX7) (N := 26) (zd_eq zk124 (by decide +kernel : decode cX7_feed 28 = .ok (.getfield 16, 3))) rfl (by decide) (by decide) zin_7 (zl_f zo124 zw_799)) <|
  zcons (a := (31, zi_al 0 32)) (zs_al_n (M := 124) (pc := 31) (zd_eq zk124 (by decide +kernel : decode cX7_feed 31 = .ok (.aload_n 0, 1)))) <|
  zcons (a := (32, zi_gi 7 4 35)) (zs_gi (M := 124) (pc := 32) (n := 0) (ci := 7) (k := 4) (C := RX7) (T := TX7) (N := 26) (zd_eq zk124 (by decide +kernel : decode cX7_feed 32 = .ok (.getfield 53, 3))) rfl (by decide) (by decide) zin_7 (zl_f zo124 zw_800)) <|
  zcons (a := (35, zi_il 1 36)) (zs_il_n (M := 124) (pc := 35) (zd_eq zk124 (by decide +kernel : decode cX7_feed 35 = .ok (.iload_n 1, 1)))) <|
  zcons (a := (36, zi_ast 0 (fun x => x) 37)) (zs_iast (M := 124) (pc := 36) (zd_eq zk124 (by decide +kernel : decode cX7_feed 36 = .ok (.iastore, 1)))) <|
  zcons (a := (37, zi_al 0 38)) (zs_al_n (M := 124) (pc := 37) (zd_eq zk124 (by decide +kernel : decode cX7_feed 37 = .ok (.aload_n 0, 1)))) <|
  zcons (a := (38, zi_dup 39)) (zs_dup (M := 124) (pc := 38) (zd_eq zk124 (by decide +kernel : decode cX7_feed 38 = .ok (.dup, 1)))) <|
  zcons (a := (39, zi_gi 7 4 42)) (zs_gi (M := 124) (pc := 39) (n := 0) (ci := 7) (k := 4) (C := RX7) (T := TX7) (N := 26) (zd_eq zk124 (by decide +kernel : decode cX7_feed 39 = .ok (.getfield 53, 3))) rfl (by decide) (by decide) zin_7 (zl_f zo124 zw_800)) <|
  zcons (a := (42, zi_k (.int 1) 43)) (zs_iconst (M := 124) (pc := 42) (zd_eq zk124 (by decide +kernel : decode cX7_feed 42 = .ok (.iconst 1, 1))) (by decide)) <| znil
theorem zS124_1 : ∀ q ∈ zm_c124_1, zm_Snd 124 q.1 q.2 :=
  zcons (a := (43, zi_bin (· + ·) 44)) (zs_iadd (M := 124) (pc := 43) (zd_eq zk124 (by decide +kernel : decode cX7_feed 43 = .ok (.iadd, 1)))) <|
  zcons (a := (44, zi_pf 7 4 47)) (zs_pf (M := 124) (pc := 44) (ci := 7) (k := 4) (C := RX7) (T := TX7) (N := 26) (ty0 := tyX7) (zd_eq zk124 (by decide +kernel : decode cX7_feed 44 = .ok (.putfield 53, 3))) rfl (by decide) (by decide) zin_7 (zl_f zo124 zw_800) tyX7_ok nmX7 rfl (tyX7_ok 4 (by decide))) <|
  zcons (a := (47, zi_al 0 48)) (zs_al_n (M := 124) (pc := 47) (zd_eq zk124 (by decide +kernel : decode cX7_feed 47 = .ok (.aload_n 0, 1)))) <|
  zcons (a := (48, zi_gi 7 4 51)) (zs_gi (M := 124) (pc := 48) (n := 0) (ci := 7) (k := 4) (C := RX7) (T := TX7) (N := 26) (zd_eq zk124 (by decide +kernel : decode cX7_feed 48 = .ok (.getfield 53, 3))) rfl (by decide) (by decide) zin_7 (zl_f zo124 zw_800)) <|
  zcons (a := (51, zi_ri)) (zs_ri (M := 124) (pc := 51) (zd_eq zk124 (by decide +kernel : decode cX7_feed 51 = .ok (.ireturn, 1))) rfl) <| znil
theorem zS124 : ∀ pc, zm_Snd 124 pc (zm_lk2 zm_c124 pc) := zlk2 (zcons2 zS124_0 (zcons2 zS124_1 (znil2)))
theorem zS125_0 : ∀ q ∈ zm_c125_0, zm_Snd 125 q.1 q.2 :=
  zcons (a := (0, zi_il 1 1)) (zs_il_n (M := 125) (pc := 0) (zd_eq zk125 (by decide +kernel : decode cX7_end 0 = .ok (.iload_n 1, 1)))) <|
  zcons (a := (1, zi_i2l 2)) (zs_i2l (M := 125) (pc := 1) (zd_eq zk125 (by decide +kernel : decode cX7_end 1 = .ok (.i2l, 1)))) <|
  zcons (a := (2, zi_k (.long 0) 3)) (zs_lconst (M := 125) (pc := 2) (zd_eq zk125 (by decide +kernel : decode cX7_end 2 = .ok (.lconst 0, 1))) (by decide)) <|
  zcons (a := (3, zi_al 0 4)) (zs_al_n (M := 125) (pc := 3) (zd_eq zk125 (by decide +kernel : decode cX7_end 3 = .ok (.aload_n 0, 1)))) <|
  zcons (a := (4, zi_gi 7 4 7)) (zs_gi (M := 125) (pc := 4) (n := 0) (ci := 7) (k := 4) (C := RX7) (T := TX7) (N := 26) (zd_eq zk125 (by decide +kernel : decode cX7_end 4 = .ok (.getfield 53, 3))) rfl (by decide) (by decide) zin_7 (zl_f zo125 zw_800)) <|
  zcons (a := (7, zi_i2l 8)) (zs_i2l (M := 125) (pc := 7) (zd_eq zk125 (by decide +kernel : decode cX7_end 7 = .ok (.i2l, 1)))) <|
  zcons (a := (8, zi_cs 123 3 11 1)) (zs_cs (M := 125) (pc := 8) (M' := 123) (k := 3) (kd := 1) (zd_eq zk125 (by decide +kernel : decode cX7_end 8 = .ok (.invokestatic 49, 3))) zWd123 (zl_m zo125 zy123 zw_880) (zl_s zy123 zw_881)) <|
  zcons (a := (11, zi_b1 (fun x => ¬ x = 0) 16 14)) (zs_ifne (M := 125) (pc := 11) (zd_eq zk125 (by decide +kernel : decode cX7_end 11 = .ok (.ifCond .ne 5, 3))) (by decide)) <|
  zcons (a := (14, zi_k (.int (-1)) 15)) (zs_iconst (M := 125) (pc := 14) (zd_eq zk125 (by decide +kernel : decode cX7_end 14 = .ok (.iconst (-1), 1))) (by decide)) <|
  zcons (a := (15, zi_ri)) (zs_ri (M := 125) (pc := 15) (zd_eq zk125 (by decide +kernel : decode cX7_end 15 = .ok (.ireturn, 1))) rfl) <|
  zcons (a := (16, zi_al 0 17)) (zs_al_n (M := 125) (pc := 16) (zd_eq zk125 (by decide +kernel : decode cX7_end 16 = .ok (.aload_n 0, 1)))) <|
  zcons (a := (17, zi_gi 7 4 20)) (zs_gi (M := 125) (pc := 17) (n := 0) (ci := 7) (k := 4) (C := RX7) (T := TX7) (N := 26) (zd_eq zk125 (by decide +kernel : decode cX7_end 17 = .ok (.getfield 53, 3))) rfl (by decide) (by decide) zin_7 (zl_f zo125 zw_800)) <|
  zcons (a := (20, zi_is 2 21)) (zs_is_n (M := 125) (pc := 20) (zd_eq zk125 (by decide +kernel : decode cX7_end 20 = .ok (.istore_n 2, 1))) (by decide +kernel) (by decide +kernel)) <|
  zcons (a := (21, zi_al 0 22)) (zs_al_n (M := 125) (pc := 21) (zd_eq zk125 (by decide +kernel : decode cX7_end 21 = .ok (.aload_n 0, 1)))) <|
  zcons (a := (22, zi_il 1 23)) (zs_il_n (M := 125) (pc := 22) (zd_eq zk125 (by decide +kernel : decode cX7_end 22 = .ok (.iload_n 1, 1)))) <|
  zcons (a := (23, zi_pf 7 4 26)) (zs_pf (M := 125) (pc := 23) (ci := 7) (k := 4) (C := RX7) (T := TX7) (N := 26) (ty0 := tyX7) (zd_eq zk125 (by decide +kernel : decode cX7_end 23 = .ok (.putfield 53, 3))) rfl (by decide) (by decide) zin_7 (zl_f zo125 zw_800) tyX7_ok nmX7 rfl (tyX7_ok 4 (by decide))) <|
  zcons (a := (26, zi_il 2 27)) (zs_il_n (M := 125) (pc := 26) (zd_eq zk125 (by decide +kernel : decode cX7_end 26 = .ok (.iload_n 2, 1)))) <|
  zcons (a := (27, zi_ri)) (zs_ri (M := 125) (pc := 27) (zd_eq zk125 (by decide +kernel : decode cX7_end 27 = .ok (.ireturn, 1))) rfl) <| znil
theorem zS125 : ∀ pc, zm_Snd 125 pc (zm_lk2 zm_c125 pc) := zlk2 (zcons2 zS125_0 (znil2))
theorem zS126_0 : ∀ q ∈ zm_c126_0, zm_Snd 126 q.1 q.2 :=
  zcons (a := (0, zi_il 1 1)) (zs_il_n (M := 126) (pc := 0) (zd_eq zk126 (by decide +kernel : decode cX7_byteAt 0 = .ok (.iload_n 1, 1)))) <|
  zcons (a := (1, zi_al 0 2)) (zs_al_n (M := 126) (pc := 1) (zd_eq zk126 (by decide +kernel : decode cX7_byteAt 1 = .ok (.aload_n 0, 1)))) <|
  zcons (a := (2, zi_gi 7 4 5)) (zs_gi (M := 126) (pc := 2) (n := 0) (ci := 7) (k := 4) (C := RX7) (T := TX7) (N := 26) (zd_eq zk126 (by decide +kernel : decode cX7_byteAt 2 = .ok (.getfield 53, 3))) rfl (by decide) (by decide) zin_7 (zl_f zo126 zw_800)) <|
  zcons (a := (5, zi_b2 (fun x y => y ≤ x) 17 8)) (zs_icmpge (M := 126) (pc := 5) (zd_eq zk126 (by decide +kernel : decode cX7_byteAt 5 = .ok (.if_icmp .ge 12, 3))) (by decide)) <|
  zcons (a := (8, zi_al 0 9)) (zs_al_n (M := 126) (pc := 8) (zd_eq zk126 (by decide +kernel : decode cX7_byteAt 8 = .ok (.aload_n 0, 1)))) <|
  zcons (a := (9, zi_gr 7 3 12)) (zs_gr (M := 126) (pc := 9) (n := 0) (ci := 7) (k := 3) (C := RX7) (T := TX7) (N := 26) (zd_eq zk126 (by decide +kernel : decode cX7_byteAt 9 = .ok (.getfield 16, 3))) rfl (by decide) (by decide) zin_7 (zl_f zo126 zw_799)) <|
  zcons (a := (12, zi_il 1 13)) (zs_il_n (M := 126) (pc := 12) (zd_eq zk126 (by decide +kernel : decode cX7_byteAt 12 = .ok (.iload_n 1, 1)))) <|
  zcons (a := (13, zi_ald 0 14)) (zs_iald (M := 126) (pc := 13) (zd_eq zk126 (by decide +kernel : decode cX7_byteAt 13 = .ok (.iaload, 1)))) <|
  zcons (a := (14, zi_go 19)) (zs_goto (M := 126) (pc := 14) (zd_eq zk126 (by decide +kernel : decode cX7_byteAt 14 = .ok (.goto 5, 3))) (by decide)) <|
  zcons (a := (17, zi_k (.int (-4)) 19)) (zs_bipush (M := 126) (pc := 17) (zd_eq zk126 (by decide +kernel : decode cX7_byteAt 17 = .ok (.bipush (-4), 2))) (by decide)) <|
  zcons (a := (19, zi_ri)) (zs_ri (M := 126) (pc := 19) (zd_eq zk126 (by decide +kernel : decode cX7_byteAt 19 = .ok (.ireturn, 1))) rfl) <| znil
theorem zS126 : ∀ pc, zm_Snd 126 pc (zm_lk2 zm_c126 pc) := zlk2 (zcons2 zS126_0 (znil2))
theorem zS127_0 : ∀ q ∈ zm_c127_0, zm_Snd 127 q.1 q.2 :=
  zcons (a := (0, zi_al 0 1)) (zs_al_n (M := 127) (pc := 0) (zd_eq zk127 (by decide +kernel : decode cX7_fails 0 = .ok (.aload_n 0, 1)))) <|
  zcons (a := (1, zi_gi 7 6 4)) (zs_gi (M := 127) (pc := 1) (n := 0) (ci := 7) (k := 6) (C := RX7) (T := TX7) (N := 26) (zd_eq zk127 (by decide +kernel : decode cX7_fails 1 = .ok (.getfield 57, 3))) rfl (by decide) (by decide) zin_7 (zl_f zo127 zw_802)) <|
  zcons (a := (4, zi_b1 (fun x => ¬ x = 0) 20 7)) (zs_ifne (M := 127) (pc := 4) (zd_eq zk127 (by decide +kernel : decode cX7_fails 4 = .ok (.ifCond .ne 16, 3))) (by decide)) <|
  zcons (a := (7, zi_al 0 8)) (zs_al_n (M := 127) (pc := 7) (zd_eq zk127 (by decide +kernel : decode cX7_fails 7 = .ok (.aload_n 0, 1)))) <|
  zcons (a := (8, zi_il 1 9)) (zs_il_n (M := 127) (pc := 8) (zd_eq zk127 (by decide +kernel : decode cX7_fails 8 = .ok (.iload_n 1, 1)))) <|
  zcons (a := (9, zi_pf 7 6 12)) (zs_pf (M := 127) (pc := 9) (ci := 7) (k := 6) (C := RX7) (T := TX7) (N := 26) (ty0 := tyX7) (zd_eq zk127 (by decide +kernel : decode cX7_fails 9 = .ok (.putfield 57, 3))) rfl (by decide) (by decide) zin_7 (zl_f zo127 zw_802) tyX7_ok nmX7 rfl (tyX7_ok 6 (by decide))) <|
  zcons (a := (12, zi_al 0 13)) (zs_al_n (M := 127) (pc := 12) (zd_eq zk127 (by decide +kernel : decode cX7_fails 12 = .ok (.aload_n 0, 1)))) <|
  zcons (a := (13, zi_al 0 14)) (zs_al_n (M := 127) (pc := 13) (zd_eq zk127 (by decide +kernel : decode cX7_fails 13 = .ok (.aload_n 0, 1)))) <|
  zcons (a := (14, zi_gi 7 9 17)) (zs_gi (M := 127) (pc := 14) (n := 0) (ci := 7) (k := 9) (C := RX7) (T := TX7) (N := 26) (zd_eq zk127 (by decide +kernel : decode cX7_fails 14 = .ok (.getfield 60, 3))) rfl (by decide) (by decide) zin_7 (zl_f zo127 zw_805)) <|
  zcons (a := (17, zi_pf 7 7 20)) (zs_pf (M := 127) (pc := 17) (ci := 7) (k := 7) (C := RX7) (T := TX7) (N := 26) (ty0 := tyX7) (zd_eq zk127 (by decide +kernel : decode cX7_fails 17 = .ok (.putfield 63, 3))) rfl (by decide) (by decide) zin_7 (zl_f zo127 zw_803) tyX7_ok nmX7 rfl (tyX7_ok 7 (by decide))) <|
  zcons (a := (20, zi_rv)) (zs_rv (M := 127) (pc := 20) (zd_eq zk127 (by decide +kernel : decode cX7_fails 20 = .ok (.return_, 1))) rfl) <| znil
theorem zS127 : ∀ pc, zm_Snd 127 pc (zm_lk2 zm_c127 pc) := zlk2 (zcons2 zS127_0 (znil2))
theorem zS128_0 : ∀ q ∈ zm_c128_0, zm_Snd 128 q.1 q.2 :=
  zcons (a := (0, zi_k (.int 0) 1)) (zs_iconst (M := 128) (pc := 0) (zd_eq zk128 (by decide +kernel : decode cX7_nameHere 0 = .ok (.iconst 0, 1))) (by decide)) <|
  zcons (a := (1, zi_is 1 2)) (zs_is_n (M := 128) (pc := 1) (zd_eq zk128 (by decide +kernel : decode cX7_nameHere 1 = .ok (.istore_n 1, 1))) (by decide +kernel) (by decide +kernel)) <|
  zcons (a := (2, zi_il 1 3)) (zs_il_n (M := 128) (pc := 2) (zd_eq zk128 (by decide +kernel : decode cX7_nameHere 2 = .ok (.iload_n 1, 1)))) <|
  zcons (a := (3, zi_k (.int 5) 4)) (zs_iconst (M := 128) (pc := 3) (zd_eq zk128 (by decide +kernel : decode cX7_nameHere 3 = .ok (.iconst 5, 1))) (by decide)) <|
  zcons (a := (4, zi_b2 (fun x y => y ≤ x) 117 7)) (zs_icmpge (M := 128) (pc := 4) (zd_eq zk128 (by decide +kernel : decode cX7_nameHere 4 = .ok (.if_icmp .ge 113, 3))) (by decide)) <|
  zcons (a := (7, zi_al 0 8)) (zs_al_n (M := 128) (pc := 7) (zd_eq zk128 (by decide +kernel : decode cX7_nameHere 7 = .ok (.aload_n 0, 1)))) <|
  zcons (a := (8, zi_gi 7 10 11)) (zs_gi (M := 128) (pc := 8) (n := 0) (ci := 7) (k := 10) (C := RX7) (T := TX7) (N := 26) (zd_eq zk128 (by decide +kernel : decode cX7_nameHere 8 = .ok (.getfield 66, 3))) rfl (by decide) (by decide) zin_7 (zl_f zo128 zw_806)) <|
  zcons (a := (11, zi_k (.int 1) 12)) (zs_iconst (M := 128) (pc := 11) (zd_eq zk128 (by decide +kernel : decode cX7_nameHere 11 = .ok (.iconst 1, 1))) (by decide)) <|
  zcons (a := (12, zi_b2 (fun x y => ¬ x = y) 117 15)) (zs_icmpne (M := 128) (pc := 12) (zd_eq zk128 (by decide +kernel : decode cX7_nameHere 12 = .ok (.if_icmp .ne 105, 3))) (by decide)) <|
  zcons (a := (15, zi_al 0 16)) (zs_al_n (M := 128) (pc := 15) (zd_eq zk128 (by decide +kernel : decode cX7_nameHere 15 = .ok (.aload_n 0, 1)))) <|
  zcons (a := (16, zi_gi 7 8 19)) (zs_gi (M := 128) (pc := 16) (n := 0) (ci := 7) (k := 8) (C := RX7) (T := TX7) (N := 26) (zd_eq zk128 (by decide +kernel : decode cX7_nameHere 16 = .ok (.getfield 69, 3))) rfl (by decide) (by decide) zin_7 (zl_f zo128 zw_804)) <|
  zcons (a := (19, zi_al 0 20)) (zs_al_n (M := 128) (pc := 19) (zd_eq zk128 (by decide +kernel : decode cX7_nameHere 19 = .ok (.aload_n 0, 1)))) <|
  zcons (a := (20, zi_gi 7 9 23)) (zs_gi (M := 128) (pc := 20) (n := 0) (ci := 7) (k := 9) (C := RX7) (T := TX7) (N := 26) (zd_eq zk128 (by decide +kernel : decode cX7_nameHere 20 = .ok (.getfield 60, 3))) rfl (by decide) (by decide) zin_7 (zl_f zo128 zw_805)) <|
  zcons (a := (23, zi_bin (· - ·) 24)) (zs_isub (M := 128) (pc := 23) (zd_eq zk128 (by decide +kernel : decode cX7_nameHere 23 = .ok (.isub, 1)))) <|
  zcons (a := (24, zi_al 0 25)) (zs_al_n (M := 128) (pc := 24) (zd_eq zk128 (by decide +kernel : decode cX7_nameHere 24 = .ok (.aload_n 0, 1)))) <|
  zcons (a := (25, zi_gr 7 12 28)) (zs_gr (M := 128) (pc := 25) (n := 0) (ci := 7) (k := 12) (C := RX7) (T := TX7) (N := 26) (zd_eq zk128 (by decide +kernel : decode cX7_nameHere 25 = .ok (.getfield 19, 3))) rfl (by decide) (by decide) zin_7 (zl_f zo128 zw_808)) <|
  zcons (a := (28, zi_il 1 29)) (zs_il_n (M := 128) (pc := 28) (zd_eq zk128 (by decide +kernel : decode cX7_nameHere 28 = .ok (.iload_n 1, 1)))) <|
  zcons (a := (29, zi_k (.int 1) 30)) (zs_iconst (M := 128) (pc := 29) (zd_eq zk128 (by decide +kernel : decode cX7_nameHere 29 = .ok (.iconst 1, 1))) (by decide)) <|
  zcons (a := (30, zi_bin (· + ·) 31)) (zs_iadd (M := 128) (pc := 30) (zd_eq zk128 (by decide +kernel : decode cX7_nameHere 30 = .ok (.iadd, 1)))) <|
  zcons (a := (31, zi_ald 0 32)) (zs_iald (M := 128) (pc := 31) (zd_eq zk128 (by decide +kernel : decode cX7_nameHere 31 = .ok (.iaload, 1)))) <|
  zcons (a := (32, zi_al 0 33)) (zs_al_n (M := 128) (pc := 32) (zd_eq zk128 (by decide +kernel : decode cX7_nameHere 32 = .ok (.aload_n 0, 1)))) <|
  zcons (a := (33, zi_gr 7 12 36)) (zs_gr (M := 128) (pc := 33) (n := 0) (ci := 7) (k := 12) (C := RX7) (T := TX7) (N := 26) (zd_eq zk128 (by decide +kernel : decode cX7_nameHere 33 = .ok (.getfield 19, 3))) rfl (by decide) (by decide) zin_7 (zl_f zo128 zw_808)) <|
  zcons (a := (36, zi_il 1 37)) (zs_il_n (M := 128) (pc := 36) (zd_eq zk128 (by decide +kernel : decode cX7_nameHere 36 = .ok (.iload_n 1, 1)))) <|
  zcons (a := (37, zi_ald 0 38)) (zs_iald (M := 128) (pc := 37) (zd_eq zk128 (by decide +kernel : decode cX7_nameHere 37 = .ok (.iaload, 1)))) <| znil
theorem zS128_1 : ∀ q ∈ zm_c128_1, zm_Snd 128 q.1 q.2 :=
  zcons (a := (38, zi_bin (· - ·) 39)) (zs_isub (M := 128) (pc := 38) (zd_eq zk128 (by decide +kernel : decode cX7_nameHere 38 = .ok (.isub, 1)))) <|
  zcons (a := (39, zi_b2 (fun x y => ¬ x = y) 46 42)) (zs_icmpne (M := 128) (pc := 39) (zd_eq zk128 (by decide +kernel : decode cX7_nameHere 39 = .ok (.if_icmp .ne 7, 3))) (by decide)) <|
  zcons (a := (42, zi_k (.int 1) 43)) (zs_iconst (M := 128) (pc := 42) (zd_eq zk128 (by decide +kernel : decode cX7_nameHere 42 = .ok (.iconst 1, 1))) (by decide)) <|
  zcons (a := (43, zi_go 47)) (zs_goto (M := 128) (pc := 43) (zd_eq zk128 (by decide +kernel : decode cX7_nameHere 43 = .ok (.goto 4, 3))) (by decide)) <|
  zcons (a := (46, zi_k (.int 0) 47)) (zs_iconst (M := 128) (pc := 46) (zd_eq zk128 (by decide +kernel : decode cX7_nameHere 46 = .ok (.iconst 0, 1))) (by decide)) <|
  zcons (a := (47, zi_is 2 48)) (zs_is_n (M := 128) (pc := 47) (zd_eq zk128 (by decide +kernel : decode cX7_nameHere 47 = .ok (.istore_n 2, 1))) (by decide +kernel) (by decide +kernel)) <|
  zcons (a := (48, zi_k (.int 0) 49)) (zs_iconst (M := 128) (pc := 48) (zd_eq zk128 (by decide +kernel : decode cX7_nameHere 48 = .ok (.iconst 0, 1))) (by decide)) <|
  zcons (a := (49, zi_is 3 50)) (zs_is_n (M := 128) (pc := 49) (zd_eq zk128 (by decide +kernel : decode cX7_nameHere 49 = .ok (.istore_n 3, 1))) (by decide +kernel) (by decide +kernel)) <|
  zcons (a := (50, zi_il 2 51)) (zs_il_n (M := 128) (pc := 50) (zd_eq zk128 (by decide +kernel : decode cX7_nameHere 50 = .ok (.iload_n 2, 1)))) <|
  zcons (a := (51, zi_b1 (fun x => x = 0) 105 54)) (zs_ifeq (M := 128) (pc := 51) (zd_eq zk128 (by decide +kernel : decode cX7_nameHere 51 = .ok (.ifCond .eq 54, 3))) (by decide)) <|
  zcons (a := (54, zi_il 3 55)) (zs_il_n (M := 128) (pc := 54) (zd_eq zk128 (by decide +kernel : decode cX7_nameHere 54 = .ok (.iload_n 3, 1)))) <|
  zcons (a := (55, zi_al 0 56)) (zs_al_n (M := 128) (pc := 55) (zd_eq zk128 (by decide +kernel : decode cX7_nameHere 55 = .ok (.aload_n 0, 1)))) <|
  zcons (a := (56, zi_gi 7 8 59)) (zs_gi (M := 128) (pc := 56) (n := 0) (ci := 7) (k := 8) (C := RX7) (T := TX7) (N := 26) (zd_eq zk128 (by decide +kernel : decode cX7_nameHere 56 = .ok (.getfield 69, 3))) rfl (by decide) (by decide) zin_7 (zl_f zo128 zw_804)) <|
  zcons (a := (59, zi_al 0 60)) (zs_al_n (M := 128) (pc := 59) (zd_eq zk128 (by decide +kernel : decode cX7_nameHere 59 = .ok (.aload_n 0, 1)))) <|
  zcons (a := (60, zi_gi 7 9 63)) (zs_gi (M := 128) (pc := 60) (n := 0) (ci := 7) (k := 9) (C := RX7) (T := TX7) (N := 26) (zd_eq zk128 (by decide +kernel : decode cX7_nameHere 60 = .ok (.getfield 60, 3))) rfl (by decide) (by decide) zin_7 (zl_f zo128 zw_805)) <|
  zcons (a := (63, zi_bin (· - ·) 64)) (zs_isub (M := 128) (pc := 63) (zd_eq zk128 (by decide +kernel : decode cX7_nameHere 63 = .ok (.isub, 1)))) <|
  zcons (a := (64, zi_b2 (fun x y => y ≤ x) 105 67)) (zs_icmpge (M := 128) (pc := 64) (zd_eq zk128 (by decide +kernel : decode cX7_nameHere 64 = .ok (.if_icmp .ge 41, 3))) (by decide)) <|
  zcons (a := (67, zi_al 0 68)) (zs_al_n (M := 128) (pc := 67) (zd_eq zk128 (by decide +kernel : decode cX7_nameHere 67 = .ok (.aload_n 0, 1)))) <|
  zcons (a := (68, zi_al 0 69)) (zs_al_n (M := 128) (pc := 68) (zd_eq zk128 (by decide +kernel : decode cX7_nameHere 68 = .ok (.aload_n 0, 1)))) <|
  zcons (a := (69, zi_gi 7 9 72)) (zs_gi (M := 128) (pc := 69) (n := 0) (ci := 7) (k := 9) (C := RX7) (T := TX7) (N := 26) (zd_eq zk128 (by decide +kernel : decode cX7_nameHere 69 = .ok (.getfield 60, 3))) rfl (by decide) (by decide) zin_7 (zl_f zo128 zw_805)) <|
  zcons (a := (72, zi_il 3 73)) (zs_il_n (M := 128) (pc := 72) (zd_eq zk128 (by decide +kernel : decode cX7_nameHere 72 = .ok (.iload_n 3, 1)))) <|
  zcons (a := (73, zi_bin (· + ·) 74)) (zs_iadd (M := 128) (pc := 73) (zd_eq zk128 (by decide +kernel : decode cX7_nameHere 73 = .ok (.iadd, 1)))) <|
  zcons (a := (74, zi_cv 126 1 7 77 1)) (zs_cv (M := 128) (pc := 74) (M' := 126) (k := 1) (kd := 1) (ci := 7) (q := (RX7, TX7, 26)) (zd_eq zk128 (by decide +kernel : decode cX7_nameHere 74 = .ok (.invokevirtual 72, 3))) zWd126 (zl_m zo128 zy126 zw_895) (zl_i zy126 zw_897) (zl_e zy126 zw_21) (by decide) rfl (by rw [zo126])) <|
  zcons (a := (77, zi_al 0 78)) (zs_al_n (M := 128) (pc := 77) (zd_eq zk128 (by decide +kernel : decode cX7_nameHere 77 = .ok (.aload_n 0, 1)))) <| znil
theorem zS128_2 : ∀ q ∈ zm_c128_2, zm_Snd 128 q.1 q.2 :=
  zcons (a := (78, zi_gr 7 13 81)) (zs_gr (M := 128) (pc := 78) (n := 0) (ci := 7) (k := 13) (C := RX7) (T := TX7) (N := 26) (zd_eq zk128 (by decide +kernel : decode cX7_nameHere 78 = .ok (.getfield 22, 3))) rfl (by decide) (by decide) zin_7 (zl_f zo128 zw_809)) <|
  zcons (a := (81, zi_al 0 82)) (zs_al_n (M := 128) (pc := 81) (zd_eq zk128 (by decide +kernel : decode cX7_nameHere 81 = .ok (.aload_n 0, 1)))) <|
  zcons (a := (82, zi_gr 7 12 85)) (zs_gr (M := 128) (pc := 82) (n := 0) (ci := 7) (k := 12) (C := RX7) (T := TX7) (N := 26) (zd_eq zk128 (by decide +kernel : decode cX7_nameHere 82 = .ok (.getfield 19, 3))) rfl (by decide) (by decide) zin_7 (zl_f zo128 zw_808)) <|
  zcons (a := (85, zi_il 1 86)) (zs_il_n (M := 128) (pc := 85) (zd_eq zk128 (by decide +kernel : decode cX7_nameHere 85 = .ok (.iload_n 1, 1)))) <|
  zcons (a := (86, zi_ald 0 87)) (zs_iald (M := 128) (pc := 86) (zd_eq zk128 (by decide +kernel : decode cX7_nameHere 86 = .ok (.iaload, 1)))) <|
  zcons (a := (87, zi_il 3 88)) (zs_il_n (M := 128) (pc := 87) (zd_eq zk128 (by decide +kernel : decode cX7_nameHere 87 = .ok (.iload_n 3, 1)))) <|
  zcons (a := (88, zi_bin (· + ·) 89)) (zs_iadd (M := 128) (pc := 88) (zd_eq zk128 (by decide +kernel : decode cX7_nameHere 88 = .ok (.iadd, 1)))) <|
  zcons (a := (89, zi_ald 0 90)) (zs_iald (M := 128) (pc := 89) (zd_eq zk128 (by decide +kernel : decode cX7_nameHere 89 = .ok (.iaload, 1)))) <|
  zcons (a := (90, zi_b2 (fun x y => ¬ x = y) 97 93)) (zs_icmpne (M := 128) (pc := 90) (zd_eq zk128 (by decide +kernel : decode cX7_nameHere 90 = .ok (.if_icmp .ne 7, 3))) (by decide)) <|
  zcons (a := (93, zi_k (.int 1) 94)) (zs_iconst (M := 128) (pc := 93) (zd_eq zk128 (by decide +kernel : decode cX7_nameHere 93 = .ok (.iconst 1, 1))) (by decide)) <|
  zcons (a := (94, zi_go 98)) (zs_goto (M := 128) (pc := 94) (zd_eq zk128 (by decide +kernel : decode cX7_nameHere 94 = .ok (.goto 4, 3))) (by decide)) <|
  zcons (a := (97, zi_k (.int 0) 98)) (zs_iconst (M := 128) (pc := 97) (zd_eq zk128 (by decide +kernel : decode cX7_nameHere 97 = .ok (.iconst 0, 1))) (by decide)) <|
  zcons (a := (98, zi_is 2 99)) (zs_is_n (M := 128) (pc := 98) (zd_eq zk128 (by decide +kernel : decode cX7_nameHere 98 = .ok (.istore_n 2, 1))) (by decide +kernel) (by decide +kernel)) <|
  zcons (a := (99, zi_inc 3 1 102)) (zs_inc (M := 128) (pc := 99) (zd_eq zk128 (by decide +kernel : decode cX7_nameHere 99 = .ok (.iinc 3 1, 3))) (by decide) (by decide +kernel) (by decide +kernel)) <|
  zcons (a := (102, zi_go 50)) (zs_goto (M := 128) (pc := 102) (zd_eq zk128 (by decide +kernel : decode cX7_nameHere 102 = .ok (.goto (-52), 3))) (by decide)) <|
  zcons (a := (105, zi_il 2 106)) (zs_il_n (M := 128) (pc := 105) (zd_eq zk128 (by decide +kernel : decode cX7_nameHere 105 = .ok (.iload_n 2, 1)))) <|
  zcons (a := (106, zi_b1 (fun x => x = 0) 111 109)) (zs_ifeq (M := 128) (pc := 106) (zd_eq zk128 (by decide +kernel : decode cX7_nameHere 106 = .ok (.ifCond .eq 5, 3))) (by decide)) <|
  zcons (a := (109, zi_il 1 110)) (zs_il_n (M := 128) (pc := 109) (zd_eq zk128 (by decide +kernel : decode cX7_nameHere 109 = .ok (.iload_n 1, 1)))) <|
  zcons (a := (110, zi_ri)) (zs_ri (M := 128) (pc := 110) (zd_eq zk128 (by decide +kernel : decode cX7_nameHere 110 = .ok (.ireturn, 1))) rfl) <|
  zcons (a := (111, zi_inc 1 1 114)) (zs_inc (M := 128) (pc := 111) (zd_eq zk128 (by decide +kernel : decode cX7_nameHere 111 = .ok (.iinc 1 1, 3))) (by decide) (by decide +kernel) (by decide +kernel)) <|
  zcons (a := (114, zi_go 2)) (zs_goto (M := 128) (pc := 114) (zd_eq zk128 (by decide +kernel : decode cX7_nameHere 114 = .ok (.goto (-112), 3))) (by decide)) <|
  zcons (a := (117, zi_k (.int (-4)) 119)) (zs_bipush (M := 128) (pc := 117) (zd_eq zk128 (by decide +kernel : decode cX7_nameHere 117 = .ok (.bipush (-4), 2))) (by decide)) <|
  zcons (a := (119, zi_ri)) (zs_ri (M := 128) (pc := 119) (zd_eq zk128 (by decide +kernel : decode cX7_nameHere 119 = .ok (.ireturn, 1))) rfl) <| znil
theorem zS128 : ∀ pc, zm_Snd 128 pc (zm_lk2 zm_c128 pc) := zlk2 (zcons2 zS128_0 (zcons2 zS128_1 (zcons2 zS128_2 (znil2))))
theorem zS129_0 : ∀ q ∈ zm_c129_0, zm_Snd 129 q.1 q.2 :=
  zcons (a := (0, zi_al 0 1)) (zs_al_n (M := 129) (pc := 0) (zd_eq zk129 (by decide +kernel : decode cX7_step 0 = .ok (.aload_n 0, 1)))) <|
  zcons (a := (1, zi_gi 7 6 4)) (zs_gi (M := 129) (pc := 1) (n := 0) (ci := 7) (k := 6) (C := RX7) (T := TX7) (N := 26) (zd_eq zk129 (by decide +kernel : decode cX7_step 1 = .ok (.getfield 57, 3))) rfl (by decide) (by decide) zin_7 (zl_f zo129 zw_802)) <|
  zcons (a := (4, zi_b1 (fun x => x ≤ 0) 8 7)) (zs_ifle (M := 129) (pc := 4) (zd_eq zk129 (by decide +kernel : decode cX7_step 4 = .ok (.ifCond .le 4, 3))) (by decide)) <|
  zcons (a := (7, zi_rv)) (zs_rv (M := 129) (pc := 7) (zd_eq zk129 (by decide +kernel : decode cX7_step 7 = .ok (.return_, 1))) rfl) <|
  zcons (a := (8, zi_al 0 9)) (zs_al_n (M := 129) (pc := 8) (zd_eq zk129 (by decide +kernel : decode cX7_step 8 = .ok (.aload_n 0, 1)))) <|
  zcons (a := (9, zi_al 0 10)) (zs_al_n (M := 129) (pc := 9) (zd_eq zk129 (by decide +kernel : decode cX7_step 9 = .ok (.aload_n 0, 1)))) <|
  zcons (a := (10, zi_gi 7 8 13)) (zs_gi (M := 129) (pc := 10) (n := 0) (ci := 7) (k := 8) (C := RX7) (T := TX7) (N := 26) (zd_eq zk129 (by decide +kernel : decode cX7_step 10 = .ok (.getfield 69, 3))) rfl (by decide) (by decide) zin_7 (zl_f zo129 zw_804)) <|
  zcons (a := (13, zi_cv 126 1 7 16 1)) (zs_cv (M := 129) (pc := 13) (M' := 126) (k := 1) (kd := 1) (ci := 7) (q := (RX7, TX7, 26)) (zd_eq zk129 (by decide +kernel : decode cX7_step 13 = .ok (.invokevirtual 72, 3))) zWd126 (zl_m zo129 zy126 zw_895) (zl_i zy126 zw_897) (zl_e zy126 zw_21) (by decide) rfl (by rw [zo126])) <|
  zcons (a := (16, zi_k (.int 32) 18)) (zs_bipush (M := 129) (pc := 16) (zd_eq zk129 (by decide +kernel : decode cX7_step 16 = .ok (.bipush 32, 2))) (by decide)) <|
  zcons (a := (18, zi_b2 (fun x y => ¬ x = y) 34 21)) (zs_icmpne (M := 129) (pc := 18) (zd_eq zk129 (by decide +kernel : decode cX7_step 18 = .ok (.if_icmp .ne 16, 3))) (by decide)) <|
  zcons (a := (21, zi_al 0 22)) (zs_al_n (M := 129) (pc := 21) (zd_eq zk129 (by decide +kernel : decode cX7_step 21 = .ok (.aload_n 0, 1)))) <|
  zcons (a := (22, zi_dup 23)) (zs_dup (M := 129) (pc := 22) (zd_eq zk129 (by decide +kernel : decode cX7_step 22 = .ok (.dup, 1)))) <|
  zcons (a := (23, zi_gi 7 8 26)) (zs_gi (M := 129) (pc := 23) (n := 0) (ci := 7) (k := 8) (C := RX7) (T := TX7) (N := 26) (zd_eq zk129 (by decide +kernel : decode cX7_step 23 = .ok (.getfield 69, 3))) rfl (by decide) (by decide) zin_7 (zl_f zo129 zw_804)) <|
  zcons (a := (26, zi_k (.int 1) 27)) (zs_iconst (M := 129) (pc := 26) (zd_eq zk129 (by decide +kernel : decode cX7_step 26 = .ok (.iconst 1, 1))) (by decide)) <|
  zcons (a := (27, zi_bin (· + ·) 28)) (zs_iadd (M := 129) (pc := 27) (zd_eq zk129 (by decide +kernel : decode cX7_step 27 = .ok (.iadd, 1)))) <|
  zcons (a := (28, zi_pf 7 8 31)) (zs_pf (M := 129) (pc := 28) (ci := 7) (k := 8) (C := RX7) (T := TX7) (N := 26) (ty0 := tyX7) (zd_eq zk129 (by decide +kernel : decode cX7_step 28 = .ok (.putfield 69, 3))) rfl (by decide) (by decide) zin_7 (zl_f zo129 zw_804) tyX7_ok nmX7 rfl (tyX7_ok 8 (by decide))) <|
  zcons (a := (31, zi_go 8)) (zs_goto (M := 129) (pc := 31) (zd_eq zk129 (by decide +kernel : decode cX7_step 31 = .ok (.goto (-23), 3))) (by decide)) <|
  zcons (a := (34, zi_al 0 35)) (zs_al_n (M := 129) (pc := 34) (zd_eq zk129 (by decide +kernel : decode cX7_step 34 = .ok (.aload_n 0, 1)))) <|
  zcons (a := (35, zi_al 0 36)) (zs_al_n (M := 129) (pc := 35) (zd_eq zk129 (by decide +kernel : decode cX7_step 35 = .ok (.aload_n 0, 1)))) <|
  zcons (a := (36, zi_gi 7 8 39)) (zs_gi (M := 129) (pc := 36) (n := 0) (ci := 7) (k := 8) (C := RX7) (T := TX7) (N := 26) (zd_eq zk129 (by decide +kernel : decode cX7_step 36 = .ok (.getfield 69, 3))) rfl (by decide) (by decide) zin_7 (zl_f zo129 zw_804)) <|
  zcons (a := (39, zi_pf 7 9 42)) (zs_pf (M := 129) (pc := 39) (ci := 7) (k := 9) (C := RX7) (T := TX7) (N := 26) (ty0 := tyX7) (zd_eq zk129 (by decide +kernel : decode cX7_step 39 = .ok (.putfield 60, 3))) rfl (by decide) (by decide) zin_7 (zl_f zo129 zw_805) tyX7_ok nmX7 rfl (tyX7_ok 9 (by decide))) <|
  zcons (a := (42, zi_al 0 43)) (zs_al_n (M := 129) (pc := 42) (zd_eq zk129 (by decide +kernel : decode cX7_step 42 = .ok (.aload_n 0, 1)))) <|
  zcons (a := (43, zi_al 0 44)) (zs_al_n (M := 129) (pc := 43) (zd_eq zk129 (by decide +kernel : decode cX7_step 43 = .ok (.aload_n 0, 1)))) <|
  zcons (a := (44, zi_gi 7 8 47)) (zs_gi (M := 129) (pc := 44) (n := 0) (ci := 7) (k := 8) (C := RX7) (T := TX7) (N := 26) (zd_eq zk129 (by decide +kernel : decode cX7_step 44 = .ok (.getfield 69, 3))) rfl (by decide) (by decide) zin_7 (zl_f zo129 zw_804)) <| znil
theorem zS129_1 : ∀ q ∈ zm_c129_1, zm_Snd 129 q.1 q.2 :=
  zcons (a := (47, zi_cv 126 1 7 50 1)) (zs_cv (M := 129) (pc := 47) (M' := 126) (k := 1) (kd := 1) (ci := 7) (q := (RX7, TX7, 26)) (zd_eq zk129 (by decide +kernel : decode cX7_step 47 = .ok (.invokevirtual 72, 3))) zWd126 (zl_m zo129 zy126 zw_895) (zl_i zy126 zw_897) (zl_e zy126 zw_21) (by decide) rfl (by rw [zo126])) <|
  zcons (a := (50, zi_is 1 51)) (zs_is_n (M := 129) (pc := 50) (zd_eq zk129 (by decide +kernel : decode cX7_step 50 = .ok (.istore_n 1, 1))) (by decide +kernel) (by decide +kernel)) <|
  zcons (a := (51, zi_al 0 52)) (zs_al_n (M := 129) (pc := 51) (zd_eq zk129 (by decide +kernel : decode cX7_step 51 = .ok (.aload_n 0, 1)))) <|
  zcons (a := (52, zi_k (.int 0) 53)) (zs_iconst (M := 129) (pc := 52) (zd_eq zk129 (by decide +kernel : decode cX7_step 52 = .ok (.iconst 0, 1))) (by decide)) <|
  zcons (a := (53, zi_pf 7 11 56)) (zs_pf (M := 129) (pc := 53) (ci := 7) (k := 11) (C := RX7) (T := TX7) (N := 26) (ty0 := tyX7) (zd_eq zk129 (by decide +kernel : decode cX7_step 53 = .ok (.putfield 76, 3))) rfl (by decide) (by decide) zin_7 (zl_f zo129 zw_807) tyX7_ok nmX7 rfl (tyX7_ok 11 (by decide))) <|
  zcons (a := (56, zi_il 1 57)) (zs_il_n (M := 129) (pc := 56) (zd_eq zk129 (by decide +kernel : decode cX7_step 56 = .ok (.iload_n 1, 1)))) <|
  zcons (a := (57, zi_k (.int (-4)) 59)) (zs_bipush (M := 129) (pc := 57) (zd_eq zk129 (by decide +kernel : decode cX7_step 57 = .ok (.bipush (-4), 2))) (by decide)) <|
  zcons (a := (59, zi_b2 (fun x y => ¬ x = y) 70 62)) (zs_icmpne (M := 129) (pc := 59) (zd_eq zk129 (by decide +kernel : decode cX7_step 59 = .ok (.if_icmp .ne 11, 3))) (by decide)) <|
  zcons (a := (62, zi_al 0 63)) (zs_al_n (M := 129) (pc := 62) (zd_eq zk129 (by decide +kernel : decode cX7_step 62 = .ok (.aload_n 0, 1)))) <|
  zcons (a := (63, zi_k (.int 0) 64)) (zs_iconst (M := 129) (pc := 63) (zd_eq zk129 (by decide +kernel : decode cX7_step 63 = .ok (.iconst 0, 1))) (by decide)) <|
  zcons (a := (64, zi_pf 7 10 67)) (zs_pf (M := 129) (pc := 64) (ci := 7) (k := 10) (C := RX7) (T := TX7) (N := 26) (ty0 := tyX7) (zd_eq zk129 (by decide +kernel : decode cX7_step 64 = .ok (.putfield 66, 3))) rfl (by decide) (by decide) zin_7 (zl_f zo129 zw_806) tyX7_ok nmX7 rfl (tyX7_ok 10 (by decide))) <|
  zcons (a := (67, zi_go 269)) (zs_goto (M := 129) (pc := 67) (zd_eq zk129 (by decide +kernel : decode cX7_step 67 = .ok (.goto 202, 3))) (by decide)) <|
  zcons (a := (70, zi_il 1 71)) (zs_il_n (M := 129) (pc := 70) (zd_eq zk129 (by decide +kernel : decode cX7_step 70 = .ok (.iload_n 1, 1)))) <|
  zcons (a := (71, zi_i2l 72)) (zs_i2l (M := 129) (pc := 71) (zd_eq zk129 (by decide +kernel : decode cX7_step 71 = .ok (.i2l, 1)))) <|
  zcons (a := (72, zi_k (.long 97) 75)) (zs_ldc2 (M := 129) (pc := 72) (zd_eq zk129 (by decide +kernel : decode cX7_step 72 = .ok (.ldc2_w 79, 3))) (zl_k2 zo129 zw_899)) <|
  zcons (a := (75, zi_k (.long 122) 78)) (zs_ldc2 (M := 129) (pc := 75) (zd_eq zk129 (by decide +kernel : decode cX7_step 75 = .ok (.ldc2_w 81, 3))) (zl_k2 zo129 zw_900)) <|
  zcons (a := (78, zi_cs 123 3 81 1)) (zs_cs (M := 129) (pc := 78) (M' := 123) (k := 3) (kd := 1) (zd_eq zk129 (by decide +kernel : decode cX7_step 78 = .ok (.invokestatic 49, 3))) zWd123 (zl_m zo129 zy123 zw_880) (zl_s zy123 zw_881)) <|
  zcons (a := (81, zi_b1 (fun x => x = 0) 126 84)) (zs_ifeq (M := 129) (pc := 81) (zd_eq zk129 (by decide +kernel : decode cX7_step 81 = .ok (.ifCond .eq 45, 3))) (by decide)) <|
  zcons (a := (84, zi_al 0 85)) (zs_al_n (M := 129) (pc := 84) (zd_eq zk129 (by decide +kernel : decode cX7_step 84 = .ok (.aload_n 0, 1)))) <|
  zcons (a := (85, zi_al 0 86)) (zs_al_n (M := 129) (pc := 85) (zd_eq zk129 (by decide +kernel : decode cX7_step 85 = .ok (.aload_n 0, 1)))) <|
  zcons (a := (86, zi_gi 7 8 89)) (zs_gi (M := 129) (pc := 86) (n := 0) (ci := 7) (k := 8) (C := RX7) (T := TX7) (N := 26) (zd_eq zk129 (by decide +kernel : decode cX7_step 86 = .ok (.getfield 69, 3))) rfl (by decide) (by decide) zin_7 (zl_f zo129 zw_804)) <|
  zcons (a := (89, zi_cv 126 1 7 92 1)) (zs_cv (M := 129) (pc := 89) (M' := 126) (k := 1) (kd := 1) (ci := 7) (q := (RX7, TX7, 26)) (zd_eq zk129 (by decide +kernel : decode cX7_step 89 = .ok (.invokevirtual 72, 3))) zWd126 (zl_m zo129 zy126 zw_895) (zl_i zy126 zw_897) (zl_e zy126 zw_21) (by decide) rfl (by rw [zo126])) <|
  zcons (a := (92, zi_i2l 93)) (zs_i2l (M := 129) (pc := 92) (zd_eq zk129 (by decide +kernel : decode cX7_step 92 = .ok (.i2l, 1)))) <|
  zcons (a := (93, zi_k (.long 97) 96)) (zs_ldc2 (M := 129) (pc := 93) (zd_eq zk129 (by decide +kernel : decode cX7_step 93 = .ok (.ldc2_w 79, 3))) (zl_k2 zo129 zw_899)) <| znil
theorem zS129_2 : ∀ q ∈ zm_c129_2, zm_Snd 129 q.1 q.2 :=
  zcons (a := (96, zi_k (.long 122) 99)) (zs_ldc2 (M := 129) (pc := 96) (zd_eq zk129 (by decide +kernel : decode cX7_step 96 = .ok (.ldc2_w 81, 3))) (zl_k2 zo129 zw_900)) <|
  zcons (a := (99, zi_cs 123 3 102 1)) (zs_cs (M := 129) (pc := 99) (M' := 123) (k := 3) (kd := 1) (zd_eq zk129 (by decide +kernel : decode cX7_step 99 = .ok (.invokestatic 49, 3))) zWd123 (zl_m zo129 zy123 zw_880) (zl_s zy123 zw_881)) <|
  zcons (a := (102, zi_b1 (fun x => x = 0) 118 105)) (zs_ifeq (M := 129) (pc := 102) (zd_eq zk129 (by decide +kernel : decode cX7_step 102 = .ok (.ifCond .eq 16, 3))) (by decide)) <|
  zcons (a := (105, zi_al 0 106)) (zs_al_n (M := 129) (pc := 105) (zd_eq zk129 (by decide +kernel : decode cX7_step 105 = .ok (.aload_n 0, 1)))) <|
  zcons (a := (106, zi_dup 107)) (zs_dup (M := 129) (pc := 106) (zd_eq zk129 (by decide +kernel : decode cX7_step 106 = .ok (.dup, 1)))) <|
  zcons (a := (107, zi_gi 7 8 110)) (zs_gi (M := 129) (pc := 107) (n := 0) (ci := 7) (k := 8) (C := RX7) (T := TX7) (N := 26) (zd_eq zk129 (by decide +kernel : decode cX7_step 107 = .ok (.getfield 69, 3))) rfl (by decide) (by decide) zin_7 (zl_f zo129 zw_804)) <|
  zcons (a := (110, zi_k (.int 1) 111)) (zs_iconst (M := 129) (pc := 110) (zd_eq zk129 (by decide +kernel : decode cX7_step 110 = .ok (.iconst 1, 1))) (by decide)) <|
  zcons (a := (111, zi_bin (· + ·) 112)) (zs_iadd (M := 129) (pc := 111) (zd_eq zk129 (by decide +kernel : decode cX7_step 111 = .ok (.iadd, 1)))) <|
  zcons (a := (112, zi_pf 7 8 115)) (zs_pf (M := 129) (pc := 112) (ci := 7) (k := 8) (C := RX7) (T := TX7) (N := 26) (ty0 := tyX7) (zd_eq zk129 (by decide +kernel : decode cX7_step 112 = .ok (.putfield 69, 3))) rfl (by decide) (by decide) zin_7 (zl_f zo129 zw_804) tyX7_ok nmX7 rfl (tyX7_ok 8 (by decide))) <|
  zcons (a := (115, zi_go 84)) (zs_goto (M := 129) (pc := 115) (zd_eq zk129 (by decide +kernel : decode cX7_step 115 = .ok (.goto (-31), 3))) (by decide)) <|
  zcons (a := (118, zi_al 0 119)) (zs_al_n (M := 129) (pc := 118) (zd_eq zk129 (by decide +kernel : decode cX7_step 118 = .ok (.aload_n 0, 1)))) <|
  zcons (a := (119, zi_k (.int 1) 120)) (zs_iconst (M := 129) (pc := 119) (zd_eq zk129 (by decide +kernel : decode cX7_step 119 = .ok (.iconst 1, 1))) (by decide)) <|
  zcons (a := (120, zi_pf 7 10 123)) (zs_pf (M := 129) (pc := 120) (ci := 7) (k := 10) (C := RX7) (T := TX7) (N := 26) (ty0 := tyX7) (zd_eq zk129 (by decide +kernel : decode cX7_step 120 = .ok (.putfield 66, 3))) rfl (by decide) (by decide) zin_7 (zl_f zo129 zw_806) tyX7_ok nmX7 rfl (tyX7_ok 10 (by decide))) <|
  zcons (a := (123, zi_go 269)) (zs_goto (M := 129) (pc := 123) (zd_eq zk129 (by decide +kernel : decode cX7_step 123 = .ok (.goto 146, 3))) (by decide)) <|
  zcons (a := (126, zi_il 1 127)) (zs_il_n (M := 129) (pc := 126) (zd_eq zk129 (by decide +kernel : decode cX7_step 126 = .ok (.iload_n 1, 1)))) <|
  zcons (a := (127, zi_i2l 128)) (zs_i2l (M := 129) (pc := 127) (zd_eq zk129 (by decide +kernel : decode cX7_step 127 = .ok (.i2l, 1)))) <|
  zcons (a := (128, zi_k (.long 48) 131)) (zs_ldc2 (M := 129) (pc := 128) (zd_eq zk129 (by decide +kernel : decode cX7_step 128 = .ok (.ldc2_w 83, 3))) (zl_k2 zo129 zw_901)) <|
  zcons (a := (131, zi_k (.long 57) 134)) (zs_ldc2 (M := 129) (pc := 131) (zd_eq zk129 (by decide +kernel : decode cX7_step 131 = .ok (.ldc2_w 85, 3))) (zl_k2 zo129 zw_902)) <|
  zcons (a := (134, zi_cs 123 3 137 1)) (zs_cs (M := 129) (pc := 134) (M' := 123) (k := 3) (kd := 1) (zd_eq zk129 (by decide +kernel : decode cX7_step 134 = .ok (.invokestatic 49, 3))) zWd123 (zl_m zo129 zy123 zw_880) (zl_s zy123 zw_881)) <|
  zcons (a := (137, zi_b1 (fun x => x = 0) 243 140)) (zs_ifeq (M := 129) (pc := 137) (zd_eq zk129 (by decide +kernel : decode cX7_step 137 = .ok (.ifCond .eq 106, 3))) (by decide)) <|
  zcons (a := (140, zi_al 0 141)) (zs_al_n (M := 129) (pc := 140) (zd_eq zk129 (by decide +kernel : decode cX7_step 140 = .ok (.aload_n 0, 1)))) <|
  zcons (a := (141, zi_al 0 142)) (zs_al_n (M := 129) (pc := 141) (zd_eq zk129 (by decide +kernel : decode cX7_step 141 = .ok (.aload_n 0, 1)))) <|
  zcons (a := (142, zi_gi 7 8 145)) (zs_gi (M := 129) (pc := 142) (n := 0) (ci := 7) (k := 8) (C := RX7) (T := TX7) (N := 26) (zd_eq zk129 (by decide +kernel : decode cX7_step 142 = .ok (.getfield 69, 3))) rfl (by decide) (by decide) zin_7 (zl_f zo129 zw_804)) <|
  zcons (a := (145, zi_cv 126 1 7 148 1)) (zs_cv (M := 129) (pc := 145) (M' := 126) (k := 1) (kd := 1) (ci := 7) (q := (RX7, TX7, 26)) (zd_eq zk129 (by decide +kernel : decode cX7_step 145 = .ok (.invokevirtual 72, 3))) zWd126 (zl_m zo129 zy126 zw_895) (zl_i zy126 zw_897) (zl_e zy126 zw_21) (by decide) rfl (by rw [zo126])) <| znil
theorem zS129_3 : ∀ q ∈ zm_c129_3, zm_Snd 129 q.1 q.2 :=
  zcons (a := (148, zi_i2l 149)) (zs_i2l (M := 129) (pc := 148) (zd_eq zk129 (by decide +kernel : decode cX7_step 148 = .ok (.i2l, 1)))) <|
  zcons (a := (149, zi_k (.long 48) 152)) (zs_ldc2 (M := 129) (pc := 149) (zd_eq zk129 (by decide +kernel : decode cX7_step 149 = .ok (.ldc2_w 83, 3))) (zl_k2 zo129 zw_901)) <|
  zcons (a := (152, zi_k (.long 57) 155)) (zs_ldc2 (M := 129) (pc := 152) (zd_eq zk129 (by decide +kernel : decode cX7_step 152 = .ok (.ldc2_w 85, 3))) (zl_k2 zo129 zw_902)) <|
  zcons (a := (155, zi_cs 123 3 158 1)) (zs_cs (M := 129) (pc := 155) (M' := 123) (k := 3) (kd := 1) (zd_eq zk129 (by decide +kernel : decode cX7_step 155 = .ok (.invokestatic 49, 3))) zWd123 (zl_m zo129 zy123 zw_880) (zl_s zy123 zw_881)) <|
  zcons (a := (158, zi_b1 (fun x => x = 0) 217 161)) (zs_ifeq (M := 129) (pc := 158) (zd_eq zk129 (by decide +kernel : decode cX7_step 158 = .ok (.ifCond .eq 59, 3))) (by decide)) <|
  zcons (a := (161, zi_al 0 162)) (zs_al_n (M := 129) (pc := 161) (zd_eq zk129 (by decide +kernel : decode cX7_step 161 = .ok (.aload_n 0, 1)))) <|
  zcons (a := (162, zi_al 0 163)) (zs_al_n (M := 129) (pc := 162) (zd_eq zk129 (by decide +kernel : decode cX7_step 162 = .ok (.aload_n 0, 1)))) <|
  zcons (a := (163, zi_gi 7 8 166)) (zs_gi (M := 129) (pc := 163) (n := 0) (ci := 7) (k := 8) (C := RX7) (T := TX7) (N := 26) (zd_eq zk129 (by decide +kernel : decode cX7_step 163 = .ok (.getfield 69, 3))) rfl (by decide) (by decide) zin_7 (zl_f zo129 zw_804)) <|
  zcons (a := (166, zi_al 0 167)) (zs_al_n (M := 129) (pc := 166) (zd_eq zk129 (by decide +kernel : decode cX7_step 166 = .ok (.aload_n 0, 1)))) <|
  zcons (a := (167, zi_gi 7 9 170)) (zs_gi (M := 129) (pc := 167) (n := 0) (ci := 7) (k := 9) (C := RX7) (T := TX7) (N := 26) (zd_eq zk129 (by decide +kernel : decode cX7_step 167 = .ok (.getfield 60, 3))) rfl (by decide) (by decide) zin_7 (zl_f zo129 zw_805)) <|
  zcons (a := (170, zi_bin (· - ·) 171)) (zs_isub (M := 129) (pc := 170) (zd_eq zk129 (by decide +kernel : decode cX7_step 170 = .ok (.isub, 1)))) <|
  zcons (a := (171, zi_k (.int 2) 172)) (zs_iconst (M := 129) (pc := 171) (zd_eq zk129 (by decide +kernel : decode cX7_step 171 = .ok (.iconst 2, 1))) (by decide)) <|
  zcons (a := (172, zi_b2 (fun x y => y ≤ x) 197 175)) (zs_icmpge (M := 129) (pc := 172) (zd_eq zk129 (by decide +kernel : decode cX7_step 172 = .ok (.if_icmp .ge 25, 3))) (by decide)) <|
  zcons (a := (175, zi_k (.int 10) 177)) (zs_bipush (M := 129) (pc := 175) (zd_eq zk129 (by decide +kernel : decode cX7_step 175 = .ok (.bipush 10, 2))) (by decide)) <|
  zcons (a := (177, zi_al 0 178)) (zs_al_n (M := 129) (pc := 177) (zd_eq zk129 (by decide +kernel : decode cX7_step 177 = .ok (.aload_n 0, 1)))) <|
  zcons (a := (178, zi_gi 7 11 181)) (zs_gi (M := 129) (pc := 178) (n := 0) (ci := 7) (k := 11) (C := RX7) (T := TX7) (N := 26) (zd_eq zk129 (by decide +kernel : decode cX7_step 178 = .ok (.getfield 76, 3))) rfl (by decide) (by decide) zin_7 (zl_f zo129 zw_807)) <|
  zcons (a := (181, zi_bin (· * ·) 182)) (zs_imul (M := 129) (pc := 181) (zd_eq zk129 (by decide +kernel : decode cX7_step 181 = .ok (.imul, 1)))) <|
  zcons (a := (182, zi_al 0 183)) (zs_al_n (M := 129) (pc := 182) (zd_eq zk129 (by decide +kernel : decode cX7_step 182 = .ok (.aload_n 0, 1)))) <|
  zcons (a := (183, zi_al 0 184)) (zs_al_n (M := 129) (pc := 183) (zd_eq zk129 (by decide +kernel : decode cX7_step 183 = .ok (.aload_n 0, 1)))) <|
  zcons (a := (184, zi_gi 7 8 187)) (zs_gi (M := 129) (pc := 184) (n := 0) (ci := 7) (k := 8) (C := RX7) (T := TX7) (N := 26) (zd_eq zk129 (by decide +kernel : decode cX7_step 184 = .ok (.getfield 69, 3))) rfl (by decide) (by decide) zin_7 (zl_f zo129 zw_804)) <|
  zcons (a := (187, zi_cv 126 1 7 190 1)) (zs_cv (M := 129) (pc := 187) (M' := 126) (k := 1) (kd := 1) (ci := 7) (q := (RX7, TX7, 26)) (zd_eq zk129 (by decide +kernel : decode cX7_step 187 = .ok (.invokevirtual 72, 3))) zWd126 (zl_m zo129 zy126 zw_895) (zl_i zy126 zw_897) (zl_e zy126 zw_21) (by decide) rfl (by rw [zo126])) <|
  zcons (a := (190, zi_bin (· + ·) 191)) (zs_iadd (M := 129) (pc := 190) (zd_eq zk129 (by decide +kernel : decode cX7_step 190 = .ok (.iadd, 1)))) <|
  zcons (a := (191, zi_k (.int 48) 193)) (zs_bipush (M := 129) (pc := 191) (zd_eq zk129 (by decide +kernel : decode cX7_step 191 = .ok (.bipush 48, 2))) (by decide)) <|
  zcons (a := (193, zi_bin (· - ·) 194)) (zs_isub (M := 129) (pc := 193) (zd_eq zk129 (by decide +kernel : decode cX7_step 193 = .ok (.isub, 1)))) <| znil
theorem zS129_4 : ∀ q ∈ zm_c129_4, zm_Snd 129 q.1 q.2 :=
  zcons (a := (194, zi_go 201)) (zs_goto (M := 129) (pc := 194) (zd_eq zk129 (by decide +kernel : decode cX7_step 194 = .ok (.goto 7, 3))) (by decide)) <|
  zcons (a := (197, zi_al 0 198)) (zs_al_n (M := 129) (pc := 197) (zd_eq zk129 (by decide +kernel : decode cX7_step 197 = .ok (.aload_n 0, 1)))) <|
  zcons (a := (198, zi_gi 7 11 201)) (zs_gi (M := 129) (pc := 198) (n := 0) (ci := 7) (k := 11) (C := RX7) (T := TX7) (N := 26) (zd_eq zk129 (by decide +kernel : decode cX7_step 198 = .ok (.getfield 76, 3))) rfl (by decide) (by decide) zin_7 (zl_f zo129 zw_807)) <|
  zcons (a := (201, zi_pf 7 11 204)) (zs_pf (M := 129) (pc := 201) (ci := 7) (k := 11) (C := RX7) (T := TX7) (N := 26) (ty0 := tyX7) (zd_eq zk129 (by decide +kernel : decode cX7_step 201 = .ok (.putfield 76, 3))) rfl (by decide) (by decide) zin_7 (zl_f zo129 zw_807) tyX7_ok nmX7 rfl (tyX7_ok 11 (by decide))) <|
  zcons (a := (204, zi_al 0 205)) (zs_al_n (M := 129) (pc := 204) (zd_eq zk129 (by decide +kernel : decode cX7_step 204 = .ok (.aload_n 0, 1)))) <|
  zcons (a := (205, zi_dup 206)) (zs_dup (M := 129) (pc := 205) (zd_eq zk129 (by decide +kernel : decode cX7_step 205 = .ok (.dup, 1)))) <|
  zcons (a := (206, zi_gi 7 8 209)) (zs_gi (M := 129) (pc := 206) (n := 0) (ci := 7) (k := 8) (C := RX7) (T := TX7) (N := 26) (zd_eq zk129 (by decide +kernel : decode cX7_step 206 = .ok (.getfield 69, 3))) rfl (by decide) (by decide) zin_7 (zl_f zo129 zw_804)) <|
  zcons (a := (209, zi_k (.int 1) 210)) (zs_iconst (M := 129) (pc := 209) (zd_eq zk129 (by decide +kernel : decode cX7_step 209 = .ok (.iconst 1, 1))) (by decide)) <|
  zcons (a := (210, zi_bin (· + ·) 211)) (zs_iadd (M := 129) (pc := 210) (zd_eq zk129 (by decide +kernel : decode cX7_step 210 = .ok (.iadd, 1)))) <|
  zcons (a := (211, zi_pf 7 8 214)) (zs_pf (M := 129) (pc := 211) (ci := 7) (k := 8) (C := RX7) (T := TX7) (N := 26) (ty0 := tyX7) (zd_eq zk129 (by decide +kernel : decode cX7_step 211 = .ok (.putfield 69, 3))) rfl (by decide) (by decide) zin_7 (zl_f zo129 zw_804) tyX7_ok nmX7 rfl (tyX7_ok 8 (by decide))) <|
  zcons (a := (214, zi_go 140)) (zs_goto (M := 129) (pc := 214) (zd_eq zk129 (by decide +kernel : decode cX7_step 214 = .ok (.goto (-74), 3))) (by decide)) <|
  zcons (a := (217, zi_al 0 218)) (zs_al_n (M := 129) (pc := 217) (zd_eq zk129 (by decide +kernel : decode cX7_step 217 = .ok (.aload_n 0, 1)))) <|
  zcons (a := (218, zi_k (.int 2) 219)) (zs_iconst (M := 129) (pc := 218) (zd_eq zk129 (by decide +kernel : decode cX7_step 218 = .ok (.iconst 2, 1))) (by decide)) <|
  zcons (a := (219, zi_pf 7 10 222)) (zs_pf (M := 129) (pc := 219) (ci := 7) (k := 10) (C := RX7) (T := TX7) (N := 26) (ty0 := tyX7) (zd_eq zk129 (by decide +kernel : decode cX7_step 219 = .ok (.putfield 66, 3))) rfl (by decide) (by decide) zin_7 (zl_f zo129 zw_806) tyX7_ok nmX7 rfl (tyX7_ok 10 (by decide))) <|
  zcons (a := (222, zi_al 0 223)) (zs_al_n (M := 129) (pc := 222) (zd_eq zk129 (by decide +kernel : decode cX7_step 222 = .ok (.aload_n 0, 1)))) <|
  zcons (a := (223, zi_gi 7 8 226)) (zs_gi (M := 129) (pc := 223) (n := 0) (ci := 7) (k := 8) (C := RX7) (T := TX7) (N := 26) (zd_eq zk129 (by decide +kernel : decode cX7_step 223 = .ok (.getfield 69, 3))) rfl (by decide) (by decide) zin_7 (zl_f zo129 zw_804)) <|
  zcons (a := (226, zi_al 0 227)) (zs_al_n (M := 129) (pc := 226) (zd_eq zk129 (by decide +kernel : decode cX7_step 226 = .ok (.aload_n 0, 1)))) <|
  zcons (a := (227, zi_gi 7 9 230)) (zs_gi (M := 129) (pc := 227) (n := 0) (ci := 7) (k := 9) (C := RX7) (T := TX7) (N := 26) (zd_eq zk129 (by decide +kernel : decode cX7_step 227 = .ok (.getfield 60, 3))) rfl (by decide) (by decide) zin_7 (zl_f zo129 zw_805)) <|
  zcons (a := (230, zi_bin (· - ·) 231)) (zs_isub (M := 129) (pc := 230) (zd_eq zk129 (by decide +kernel : decode cX7_step 230 = .ok (.isub, 1)))) <|
  zcons (a := (231, zi_k (.int 2) 232)) (zs_iconst (M := 129) (pc := 231) (zd_eq zk129 (by decide +kernel : decode cX7_step 231 = .ok (.iconst 2, 1))) (by decide)) <|
  zcons (a := (232, zi_b2 (fun x y => x ≤ y) 269 235)) (zs_icmple (M := 129) (pc := 232) (zd_eq zk129 (by decide +kernel : decode cX7_step 232 = .ok (.if_icmp .le 37, 3))) (by decide)) <|
  zcons (a := (235, zi_al 0 236)) (zs_al_n (M := 129) (pc := 235) (zd_eq zk129 (by decide +kernel : decode cX7_step 235 = .ok (.aload_n 0, 1)))) <|
  zcons (a := (236, zi_k (.int 1) 237)) (zs_iconst (M := 129) (pc := 236) (zd_eq zk129 (by decide +kernel : decode cX7_step 236 = .ok (.iconst 1, 1))) (by decide)) <|
  zcons (a := (237, zi_cv 127 1 7 240 0)) (zs_cv (M := 129) (pc := 237) (M' := 127) (k := 1) (kd := 0) (ci := 7) (q := (RX7, TX7, 26)) (zd_eq zk129 (by decide +kernel : decode cX7_step 237 = .ok (.invokevirtual 87, 3))) zWd127 (zl_m zo129 zy127 zw_903) (zl_i zy127 zw_905) (zl_e zy127 zw_22) (by decide) rfl (by rw [zo127])) <| znil
theorem zS129_5 : ∀ q ∈ zm_c129_5, zm_Snd 129 q.1 q.2 :=
  zcons (a := (240, zi_go 269)) (zs_goto (M := 129) (pc := 240) (zd_eq zk129 (by decide +kernel : decode cX7_step 240 = .ok (.goto 29, 3))) (by decide)) <|
  zcons (a := (243, zi_al 0 244)) (zs_al_n (M := 129) (pc := 243) (zd_eq zk129 (by decide +kernel : decode cX7_step 243 = .ok (.aload_n 0, 1)))) <|
  zcons (a := (244, zi_k (.int 3) 245)) (zs_iconst (M := 129) (pc := 244) (zd_eq zk129 (by decide +kernel : decode cX7_step 244 = .ok (.iconst 3, 1))) (by decide)) <|
  zcons (a := (245, zi_pf 7 10 248)) (zs_pf (M := 129) (pc := 245) (ci := 7) (k := 10) (C := RX7) (T := TX7) (N := 26) (ty0 := tyX7) (zd_eq zk129 (by decide +kernel : decode cX7_step 245 = .ok (.putfield 66, 3))) rfl (by decide) (by decide) zin_7 (zl_f zo129 zw_806) tyX7_ok nmX7 rfl (tyX7_ok 10 (by decide))) <|
  zcons (a := (248, zi_al 0 249)) (zs_al_n (M := 129) (pc := 248) (zd_eq zk129 (by decide +kernel : decode cX7_step 248 = .ok (.aload_n 0, 1)))) <|
  zcons (a := (249, zi_dup 250)) (zs_dup (M := 129) (pc := 249) (zd_eq zk129 (by decide +kernel : decode cX7_step 249 = .ok (.dup, 1)))) <|
  zcons (a := (250, zi_gi 7 8 253)) (zs_gi (M := 129) (pc := 250) (n := 0) (ci := 7) (k := 8) (C := RX7) (T := TX7) (N := 26) (zd_eq zk129 (by decide +kernel : decode cX7_step 250 = .ok (.getfield 69, 3))) rfl (by decide) (by decide) zin_7 (zl_f zo129 zw_804)) <|
  zcons (a := (253, zi_k (.int 1) 254)) (zs_iconst (M := 129) (pc := 253) (zd_eq zk129 (by decide +kernel : decode cX7_step 253 = .ok (.iconst 1, 1))) (by decide)) <|
  zcons (a := (254, zi_bin (· + ·) 255)) (zs_iadd (M := 129) (pc := 254) (zd_eq zk129 (by decide +kernel : decode cX7_step 254 = .ok (.iadd, 1)))) <|
  zcons (a := (255, zi_pf 7 8 258)) (zs_pf (M := 129) (pc := 255) (ci := 7) (k := 8) (C := RX7) (T := TX7) (N := 26) (ty0 := tyX7) (zd_eq zk129 (by decide +kernel : decode cX7_step 255 = .ok (.putfield 69, 3))) rfl (by decide) (by decide) zin_7 (zl_f zo129 zw_804) tyX7_ok nmX7 rfl (tyX7_ok 8 (by decide))) <|
  zcons (a := (258, zi_il 1 259)) (zs_il_n (M := 129) (pc := 258) (zd_eq zk129 (by decide +kernel : decode cX7_step 258 = .ok (.iload_n 1, 1)))) <|
  zcons (a := (259, zi_k (.int 59) 261)) (zs_bipush (M := 129) (pc := 259) (zd_eq zk129 (by decide +kernel : decode cX7_step 259 = .ok (.bipush 59, 2))) (by decide)) <|
  zcons (a := (261, zi_b2 (fun x y => x = y) 269 264)) (zs_icmpeq (M := 129) (pc := 261) (zd_eq zk129 (by decide +kernel : decode cX7_step 261 = .ok (.if_icmp .eq 8, 3))) (by decide)) <|
  zcons (a := (264, zi_al 0 265)) (zs_al_n (M := 129) (pc := 264) (zd_eq zk129 (by decide +kernel : decode cX7_step 264 = .ok (.aload_n 0, 1)))) <|
  zcons (a := (265, zi_k (.int 1) 266)) (zs_iconst (M := 129) (pc := 265) (zd_eq zk129 (by decide +kernel : decode cX7_step 265 = .ok (.iconst 1, 1))) (by decide)) <|
  zcons (a := (266, zi_cv 127 1 7 269 0)) (zs_cv (M := 129) (pc := 266) (M' := 127) (k := 1) (kd := 0) (ci := 7) (q := (RX7, TX7, 26)) (zd_eq zk129 (by decide +kernel : decode cX7_step 266 = .ok (.invokevirtual 87, 3))) zWd127 (zl_m zo129 zy127 zw_903) (zl_i zy127 zw_905) (zl_e zy127 zw_22) (by decide) rfl (by rw [zo127])) <|
  zcons (a := (269, zi_rv)) (zs_rv (M := 129) (pc := 269) (zd_eq zk129 (by decide +kernel : decode cX7_step 269 = .ok (.return_, 1))) rfl) <| znil
theorem zS129 : ∀ pc, zm_Snd 129 pc (zm_lk2 zm_c129 pc) := zlk2 (zcons2 zS129_0 (zcons2 zS129_1 (zcons2 zS129_2 (zcons2 zS129_3 (zcons2 zS129_4 (zcons2 zS129_5 (znil2)))))))
theorem zS130_0 : ∀ q ∈ zm_c130_0, zm_Snd 130 q.1 q.2 :=
  zcons (a := (0, zi_al 0 1)) (zs_al_n (M := 130) (pc := 0) (zd_eq zk130 (by decide +kernel : decode cX7_number 0 = .ok (.aload_n 0, 1)))) <|
  zcons (a := (1, zi_gi 7 6 4)) (zs_gi (M := 130) (pc := 1) (n := 0) (ci := 7) (k := 6) (C := RX7) (T := TX7) (N := 26) (zd_eq zk130 (by decide +kernel : decode cX7_number 1 = .ok (.getfield 57, 3))) rfl (by decide) (by decide) zin_7 (zl_f zo130 zw_802)) <|
  zcons (a := (4, zi_b1 (fun x => ¬ x = 0) 20 7)) (zs_ifne (M := 130) (pc := 4) (zd_eq zk130 (by decide +kernel : decode cX7_number 4 = .ok (.ifCond .ne 16, 3))) (by decide)) <|
  zcons (a := (7, zi_al 0 8)) (zs_al_n (M := 130) (pc := 7) (zd_eq zk130 (by decide +kernel : decode cX7_number 7 = .ok (.aload_n 0, 1)))) <|
  zcons (a := (8, zi_gi 7 10 11)) (zs_gi (M := 130) (pc := 8) (n := 0) (ci := 7) (k := 10) (C := RX7) (T := TX7) (N := 26) (zd_eq zk130 (by decide +kernel : decode cX7_number 8 = .ok (.getfield 66, 3))) rfl (by decide) (by decide) zin_7 (zl_f zo130 zw_806)) <|
  zcons (a := (11, zi_k (.int 2) 12)) (zs_iconst (M := 130) (pc := 11) (zd_eq zk130 (by decide +kernel : decode cX7_number 11 = .ok (.iconst 2, 1))) (by decide)) <|
  zcons (a := (12, zi_b2 (fun x y => x = y) 20 15)) (zs_icmpeq (M := 130) (pc := 12) (zd_eq zk130 (by decide +kernel : decode cX7_number 12 = .ok (.if_icmp .eq 8, 3))) (by decide)) <|
  zcons (a := (15, zi_al 0 16)) (zs_al_n (M := 130) (pc := 15) (zd_eq zk130 (by decide +kernel : decode cX7_number 15 = .ok (.aload_n 0, 1)))) <|
  zcons (a := (16, zi_k (.int 2) 17)) (zs_iconst (M := 130) (pc := 16) (zd_eq zk130 (by decide +kernel : decode cX7_number 16 = .ok (.iconst 2, 1))) (by decide)) <|
  zcons (a := (17, zi_cv 127 1 7 20 0)) (zs_cv (M := 130) (pc := 17) (M' := 127) (k := 1) (kd := 0) (ci := 7) (q := (RX7, TX7, 26)) (zd_eq zk130 (by decide +kernel : decode cX7_number 17 = .ok (.invokevirtual 87, 3))) zWd127 (zl_m zo130 zy127 zw_903) (zl_i zy127 zw_905) (zl_e zy127 zw_22) (by decide) rfl (by rw [zo127])) <|
  zcons (a := (20, zi_al 0 21)) (zs_al_n (M := 130) (pc := 20) (zd_eq zk130 (by decide +kernel : decode cX7_number 20 = .ok (.aload_n 0, 1)))) <|
  zcons (a := (21, zi_gi 7 6 24)) (zs_gi (M := 130) (pc := 21) (n := 0) (ci := 7) (k := 6) (C := RX7) (T := TX7) (N := 26) (zd_eq zk130 (by decide +kernel : decode cX7_number 21 = .ok (.getfield 57, 3))) rfl (by decide) (by decide) zin_7 (zl_f zo130 zw_802)) <|
  zcons (a := (24, zi_b1 (fun x => ¬ x = 0) 47 27)) (zs_ifne (M := 130) (pc := 24) (zd_eq zk130 (by decide +kernel : decode cX7_number 24 = .ok (.ifCond .ne 23, 3))) (by decide)) <|
  zcons (a := (27, zi_al 0 28)) (zs_al_n (M := 130) (pc := 27) (zd_eq zk130 (by decide +kernel : decode cX7_number 27 = .ok (.aload_n 0, 1)))) <|
  zcons (a := (28, zi_gi 7 11 31)) (zs_gi (M := 130) (pc := 28) (n := 0) (ci := 7) (k := 11) (C := RX7) (T := TX7) (N := 26) (zd_eq zk130 (by decide +kernel : decode cX7_number 28 = .ok (.getfield 76, 3))) rfl (by decide) (by decide) zin_7 (zl_f zo130 zw_807)) <|
  zcons (a := (31, zi_i2l 32)) (zs_i2l (M := 130) (pc := 31) (zd_eq zk130 (by decide +kernel : decode cX7_number 31 = .ok (.i2l, 1)))) <|
  zcons (a := (32, zi_il 1 33)) (zs_il_n (M := 130) (pc := 32) (zd_eq zk130 (by decide +kernel : decode cX7_number 32 = .ok (.iload_n 1, 1)))) <|
  zcons (a := (33, zi_i2l 34)) (zs_i2l (M := 130) (pc := 33) (zd_eq zk130 (by decide +kernel : decode cX7_number 33 = .ok (.i2l, 1)))) <|
  zcons (a := (34, zi_il 2 35)) (zs_il_n (M := 130) (pc := 34) (zd_eq zk130 (by decide +kernel : decode cX7_number 34 = .ok (.iload_n 2, 1)))) <|
  zcons (a := (35, zi_i2l 36)) (zs_i2l (M := 130) (pc := 35) (zd_eq zk130 (by decide +kernel : decode cX7_number 35 = .ok (.i2l, 1)))) <|
  zcons (a := (36, zi_cs 123 3 39 1)) (zs_cs (M := 130) (pc := 36) (M' := 123) (k := 3) (kd := 1) (zd_eq zk130 (by decide +kernel : decode cX7_number 36 = .ok (.invokestatic 49, 3))) zWd123 (zl_m zo130 zy123 zw_880) (zl_s zy123 zw_881)) <|
  zcons (a := (39, zi_b1 (fun x => ¬ x = 0) 47 42)) (zs_ifne (M := 130) (pc := 39) (zd_eq zk130 (by decide +kernel : decode cX7_number 39 = .ok (.ifCond .ne 8, 3))) (by decide)) <|
  zcons (a := (42, zi_al 0 43)) (zs_al_n (M := 130) (pc := 42) (zd_eq zk130 (by decide +kernel : decode cX7_number 42 = .ok (.aload_n 0, 1)))) <|
  zcons (a := (43, zi_k (.int 3) 44)) (zs_iconst (M := 130) (pc := 43) (zd_eq zk130 (by decide +kernel : decode cX7_number 43 = .ok (.iconst 3, 1))) (by decide)) <| znil
theorem zS130_1 : ∀ q ∈ zm_c130_1, zm_Snd 130 q.1 q.2 :=
  zcons (a := (44, zi_cv 127 1 7 47 0)) (zs_cv (M := 130) (pc := 44) (M' := 127) (k := 1) (kd := 0) (ci := 7) (q := (RX7, TX7, 26)) (zd_eq zk130 (by decide +kernel : decode cX7_number 44 = .ok (.invokevirtual 87, 3))) zWd127 (zl_m zo130 zy127 zw_903) (zl_i zy127 zw_905) (zl_e zy127 zw_22) (by decide) rfl (by rw [zo127])) <|
  zcons (a := (47, zi_al 0 48)) (zs_al_n (M := 130) (pc := 47) (zd_eq zk130 (by decide +kernel : decode cX7_number 47 = .ok (.aload_n 0, 1)))) <|
  zcons (a := (48, zi_gi 7 6 51)) (zs_gi (M := 130) (pc := 48) (n := 0) (ci := 7) (k := 6) (C := RX7) (T := TX7) (N := 26) (zd_eq zk130 (by decide +kernel : decode cX7_number 48 = .ok (.getfield 57, 3))) rfl (by decide) (by decide) zin_7 (zl_f zo130 zw_802)) <|
  zcons (a := (51, zi_b1 (fun x => ¬ x = 0) 61 54)) (zs_ifne (M := 130) (pc := 51) (zd_eq zk130 (by decide +kernel : decode cX7_number 51 = .ok (.ifCond .ne 10, 3))) (by decide)) <|
  zcons (a := (54, zi_al 0 55)) (zs_al_n (M := 130) (pc := 54) (zd_eq zk130 (by decide +kernel : decode cX7_number 54 = .ok (.aload_n 0, 1)))) <|
  zcons (a := (55, zi_gi 7 11 58)) (zs_gi (M := 130) (pc := 55) (n := 0) (ci := 7) (k := 11) (C := RX7) (T := TX7) (N := 26) (zd_eq zk130 (by decide +kernel : decode cX7_number 55 = .ok (.getfield 76, 3))) rfl (by decide) (by decide) zin_7 (zl_f zo130 zw_807)) <|
  zcons (a := (58, zi_go 62)) (zs_goto (M := 130) (pc := 58) (zd_eq zk130 (by decide +kernel : decode cX7_number 58 = .ok (.goto 4, 3))) (by decide)) <|
  zcons (a := (61, zi_il 1 62)) (zs_il_n (M := 130) (pc := 61) (zd_eq zk130 (by decide +kernel : decode cX7_number 61 = .ok (.iload_n 1, 1)))) <|
  zcons (a := (62, zi_is 3 63)) (zs_is_n (M := 130) (pc := 62) (zd_eq zk130 (by decide +kernel : decode cX7_number 62 = .ok (.istore_n 3, 1))) (by decide +kernel) (by decide +kernel)) <|
  zcons (a := (63, zi_al 0 64)) (zs_al_n (M := 130) (pc := 63) (zd_eq zk130 (by decide +kernel : decode cX7_number 63 = .ok (.aload_n 0, 1)))) <|
  zcons (a := (64, zi_cv 129 0 7 67 0)) (zs_cv (M := 130) (pc := 64) (M' := 129) (k := 0) (kd := 0) (ci := 7) (q := (RX7, TX7, 26)) (zd_eq zk130 (by decide +kernel : decode cX7_number 64 = .ok (.invokevirtual 91, 3))) zWd129 (zl_m zo130 zy129 zw_891) (zl_i zy129 zw_893) (zl_e zy129 zw_20) (by decide) rfl (by rw [zo129])) <|
  zcons (a := (67, zi_il 3 68)) (zs_il_n (M := 130) (pc := 67) (zd_eq zk130 (by decide +kernel : decode cX7_number 67 = .ok (.iload_n 3, 1)))) <|
  zcons (a := (68, zi_ri)) (zs_ri (M := 130) (pc := 68) (zd_eq zk130 (by decide +kernel : decode cX7_number 68 = .ok (.ireturn, 1))) rfl) <| znil
theorem zS130 : ∀ pc, zm_Snd 130 pc (zm_lk2 zm_c130 pc) := zlk2 (zcons2 zS130_0 (zcons2 zS130_1 (znil2)))
theorem zS131_0 : ∀ q ∈ zm_c131_0, zm_Snd 131 q.1 q.2 :=
  zcons (a := (0, zi_il 1 1)) (zs_il_n (M := 131) (pc := 0) (zd_eq zk131 (by decide +kernel : decode cX7_readMore 0 = .ok (.iload_n 1, 1)))) <|
  zcons (a := (1, zi_k (.int 3) 2)) (zs_iconst (M := 131) (pc := 1) (zd_eq zk131 (by decide +kernel : decode cX7_readMore 1 = .ok (.iconst 3, 1))) (by decide)) <|
  zcons (a := (2, zi_b2 (fun x y => y < x) 66 5)) (zs_icmpgt (M := 131) (pc := 2) (zd_eq zk131 (by decide +kernel : decode cX7_readMore 2 = .ok (.if_icmp .gt 64, 3))) (by decide)) <|
  zcons (a := (5, zi_al 0 6)) (zs_al_n (M := 131) (pc := 5) (zd_eq zk131 (by decide +kernel : decode cX7_readMore 5 = .ok (.aload_n 0, 1)))) <|
  zcons (a := (6, zi_gr 7 1 9)) (zs_gr (M := 131) (pc := 6) (n := 0) (ci := 7) (k := 1) (C := RX7) (T := TX7) (N := 26) (zd_eq zk131 (by decide +kernel : decode cX7_readMore 6 = .ok (.getfield 13, 3))) rfl (by decide) (by decide) zin_7 (zl_f zo131 zw_797)) <|
  zcons (a := (9, zi_k (.int 15) 11)) (zs_bipush (M := 131) (pc := 9) (zd_eq zk131 (by decide +kernel : decode cX7_readMore 9 = .ok (.bipush 15, 2))) (by decide)) <|
  zcons (a := (11, zi_ald 0 12)) (zs_iald (M := 131) (pc := 11) (zd_eq zk131 (by decide +kernel : decode cX7_readMore 11 = .ok (.iaload, 1)))) <|
  zcons (a := (12, zi_is 2 13)) (zs_is_n (M := 131) (pc := 12) (zd_eq zk131 (by decide +kernel : decode cX7_readMore 12 = .ok (.istore_n 2, 1))) (by decide +kernel) (by decide +kernel)) <|
  zcons (a := (13, zi_al 0 14)) (zs_al_n (M := 131) (pc := 13) (zd_eq zk131 (by decide +kernel : decode cX7_readMore 13 = .ok (.aload_n 0, 1)))) <|
  zcons (a := (14, zi_gr 7 1 17)) (zs_gr (M := 131) (pc := 14) (n := 0) (ci := 7) (k := 1) (C := RX7) (T := TX7) (N := 26) (zd_eq zk131 (by decide +kernel : decode cX7_readMore 14 = .ok (.getfield 13, 3))) rfl (by decide) (by decide) zin_7 (zl_f zo131 zw_797)) <|
  zcons (a := (17, zi_il 2 18)) (zs_il_n (M := 131) (pc := 17) (zd_eq zk131 (by decide +kernel : decode cX7_readMore 17 = .ok (.iload_n 2, 1)))) <|
  zcons (a := (18, zi_il 1 19)) (zs_il_n (M := 131) (pc := 18) (zd_eq zk131 (by decide +kernel : decode cX7_readMore 18 = .ok (.iload_n 1, 1)))) <|
  zcons (a := (19, zi_ast 0 (fun x => x) 20)) (zs_iast (M := 131) (pc := 19) (zd_eq zk131 (by decide +kernel : decode cX7_readMore 19 = .ok (.iastore, 1)))) <|
  zcons (a := (20, zi_al 0 21)) (zs_al_n (M := 131) (pc := 20) (zd_eq zk131 (by decide +kernel : decode cX7_readMore 20 = .ok (.aload_n 0, 1)))) <|
  zcons (a := (21, zi_gr 7 1 24)) (zs_gr (M := 131) (pc := 21) (n := 0) (ci := 7) (k := 1) (C := RX7) (T := TX7) (N := 26) (zd_eq zk131 (by decide +kernel : decode cX7_readMore 21 = .ok (.getfield 13, 3))) rfl (by decide) (by decide) zin_7 (zl_f zo131 zw_797)) <|
  zcons (a := (24, zi_k (.int 5) 25)) (zs_iconst (M := 131) (pc := 24) (zd_eq zk131 (by decide +kernel : decode cX7_readMore 24 = .ok (.iconst 5, 1))) (by decide)) <|
  zcons (a := (25, zi_il 2 26)) (zs_il_n (M := 131) (pc := 25) (zd_eq zk131 (by decide +kernel : decode cX7_readMore 25 = .ok (.iload_n 2, 1)))) <|
  zcons (a := (26, zi_bin (· + ·) 27)) (zs_iadd (M := 131) (pc := 26) (zd_eq zk131 (by decide +kernel : decode cX7_readMore 26 = .ok (.iadd, 1)))) <|
  zcons (a := (27, zi_al 0 28)) (zs_al_n (M := 131) (pc := 27) (zd_eq zk131 (by decide +kernel : decode cX7_readMore 27 = .ok (.aload_n 0, 1)))) <|
  zcons (a := (28, zi_k (.int 0) 29)) (zs_iconst (M := 131) (pc := 28) (zd_eq zk131 (by decide +kernel : decode cX7_readMore 28 = .ok (.iconst 0, 1))) (by decide)) <|
  zcons (a := (29, zi_k (.int 99) 31)) (zs_bipush (M := 131) (pc := 29) (zd_eq zk131 (by decide +kernel : decode cX7_readMore 29 = .ok (.bipush 99, 2))) (by decide)) <|
  zcons (a := (31, zi_cv 130 2 7 34 1)) (zs_cv (M := 131) (pc := 31) (M' := 130) (k := 2) (kd := 1) (ci := 7) (q := (RX7, TX7, 26)) (zd_eq zk131 (by decide +kernel : decode cX7_readMore 31 = .ok (.invokevirtual 94, 3))) zWd130 (zl_m zo131 zy130 zw_920) (zl_i zy130 zw_922) (zl_e zy130 zw_26) (by decide) rfl (by rw [zo130])) <|
  zcons (a := (34, zi_ast 0 (fun x => x) 35)) (zs_iast (M := 131) (pc := 34) (zd_eq zk131 (by decide +kernel : decode cX7_readMore 34 = .ok (.iastore, 1)))) <|
  zcons (a := (35, zi_al 0 36)) (zs_al_n (M := 131) (pc := 35) (zd_eq zk131 (by decide +kernel : decode cX7_readMore 35 = .ok (.aload_n 0, 1)))) <| znil
theorem zS131_1 : ∀ q ∈ zm_c131_1, zm_Snd 131 q.1 q.2 :=
  zcons (a := (36, zi_gr 7 1 39)) (zs_gr (M := 131) (pc := 36) (n := 0) (ci := 7) (k := 1) (C := RX7) (T := TX7) (N := 26) (zd_eq zk131 (by decide +kernel : decode cX7_readMore 36 = .ok (.getfield 13, 3))) rfl (by decide) (by decide) zin_7 (zl_f zo131 zw_797)) <|
  zcons (a := (39, zi_k (.int 10) 41)) (zs_bipush (M := 131) (pc := 39) (zd_eq zk131 (by decide +kernel : decode cX7_readMore 39 = .ok (.bipush 10, 2))) (by decide)) <|
  zcons (a := (41, zi_il 2 42)) (zs_il_n (M := 131) (pc := 41) (zd_eq zk131 (by decide +kernel : decode cX7_readMore 41 = .ok (.iload_n 2, 1)))) <|
  zcons (a := (42, zi_bin (· + ·) 43)) (zs_iadd (M := 131) (pc := 42) (zd_eq zk131 (by decide +kernel : decode cX7_readMore 42 = .ok (.iadd, 1)))) <|
  zcons (a := (43, zi_al 0 44)) (zs_al_n (M := 131) (pc := 43) (zd_eq zk131 (by decide +kernel : decode cX7_readMore 43 = .ok (.aload_n 0, 1)))) <|
  zcons (a := (44, zi_k (.int 0) 45)) (zs_iconst (M := 131) (pc := 44) (zd_eq zk131 (by decide +kernel : decode cX7_readMore 44 = .ok (.iconst 0, 1))) (by decide)) <|
  zcons (a := (45, zi_k (.int 40) 47)) (zs_bipush (M := 131) (pc := 45) (zd_eq zk131 (by decide +kernel : decode cX7_readMore 45 = .ok (.bipush 40, 2))) (by decide)) <|
  zcons (a := (47, zi_cv 130 2 7 50 1)) (zs_cv (M := 131) (pc := 47) (M' := 130) (k := 2) (kd := 1) (ci := 7) (q := (RX7, TX7, 26)) (zd_eq zk131 (by decide +kernel : decode cX7_readMore 47 = .ok (.invokevirtual 94, 3))) zWd130 (zl_m zo131 zy130 zw_920) (zl_i zy130 zw_922) (zl_e zy130 zw_26) (by decide) rfl (by rw [zo130])) <|
  zcons (a := (50, zi_k (.int 20) 52)) (zs_bipush (M := 131) (pc := 50) (zd_eq zk131 (by decide +kernel : decode cX7_readMore 50 = .ok (.bipush 20, 2))) (by decide)) <|
  zcons (a := (52, zi_bin (· - ·) 53)) (zs_isub (M := 131) (pc := 52) (zd_eq zk131 (by decide +kernel : decode cX7_readMore 52 = .ok (.isub, 1)))) <|
  zcons (a := (53, zi_ast 0 (fun x => x) 54)) (zs_iast (M := 131) (pc := 53) (zd_eq zk131 (by decide +kernel : decode cX7_readMore 53 = .ok (.iastore, 1)))) <|
  zcons (a := (54, zi_al 0 55)) (zs_al_n (M := 131) (pc := 54) (zd_eq zk131 (by decide +kernel : decode cX7_readMore 54 = .ok (.aload_n 0, 1)))) <|
  zcons (a := (55, zi_gr 7 1 58)) (zs_gr (M := 131) (pc := 55) (n := 0) (ci := 7) (k := 1) (C := RX7) (T := TX7) (N := 26) (zd_eq zk131 (by decide +kernel : decode cX7_readMore 55 = .ok (.getfield 13, 3))) rfl (by decide) (by decide) zin_7 (zl_f zo131 zw_797)) <|
  zcons (a := (58, zi_k (.int 15) 60)) (zs_bipush (M := 131) (pc := 58) (zd_eq zk131 (by decide +kernel : decode cX7_readMore 58 = .ok (.bipush 15, 2))) (by decide)) <|
  zcons (a := (60, zi_dup2 61)) (zs_dup2 (M := 131) (pc := 60) (zd_eq zk131 (by decide +kernel : decode cX7_readMore 60 = .ok (.dup2, 1)))) <|
  zcons (a := (61, zi_ald 0 62)) (zs_iald (M := 131) (pc := 61) (zd_eq zk131 (by decide +kernel : decode cX7_readMore 61 = .ok (.iaload, 1)))) <|
  zcons (a := (62, zi_k (.int 1) 63)) (zs_iconst (M := 131) (pc := 62) (zd_eq zk131 (by decide +kernel : decode cX7_readMore 62 = .ok (.iconst 1, 1))) (by decide)) <|
  zcons (a := (63, zi_bin (· + ·) 64)) (zs_iadd (M := 131) (pc := 63) (zd_eq zk131 (by decide +kernel : decode cX7_readMore 63 = .ok (.iadd, 1)))) <|
  zcons (a := (64, zi_ast 0 (fun x => x) 65)) (zs_iast (M := 131) (pc := 64) (zd_eq zk131 (by decide +kernel : decode cX7_readMore 64 = .ok (.iastore, 1)))) <|
  zcons (a := (65, zi_rv)) (zs_rv (M := 131) (pc := 65) (zd_eq zk131 (by decide +kernel : decode cX7_readMore 65 = .ok (.return_, 1))) rfl) <|
  zcons (a := (66, zi_al 0 67)) (zs_al_n (M := 131) (pc := 66) (zd_eq zk131 (by decide +kernel : decode cX7_readMore 66 = .ok (.aload_n 0, 1)))) <|
  zcons (a := (67, zi_gi 7 6 70)) (zs_gi (M := 131) (pc := 67) (n := 0) (ci := 7) (k := 6) (C := RX7) (T := TX7) (N := 26) (zd_eq zk131 (by decide +kernel : decode cX7_readMore 67 = .ok (.getfield 57, 3))) rfl (by decide) (by decide) zin_7 (zl_f zo131 zw_802)) <|
  zcons (a := (70, zi_b1 (fun x => ¬ x = 0) 116 73)) (zs_ifne (M := 131) (pc := 70) (zd_eq zk131 (by decide +kernel : decode cX7_readMore 70 = .ok (.ifCond .ne 46, 3))) (by decide)) <|
  zcons (a := (73, zi_al 0 74)) (zs_al_n (M := 131) (pc := 73) (zd_eq zk131 (by decide +kernel : decode cX7_readMore 73 = .ok (.aload_n 0, 1)))) <| znil
theorem zS131_2 : ∀ q ∈ zm_c131_2, zm_Snd 131 q.1 q.2 :=
  zcons (a := (74, zi_gi 7 10 77)) (zs_gi (M := 131) (pc := 74) (n := 0) (ci := 7) (k := 10) (C := RX7) (T := TX7) (N := 26) (zd_eq zk131 (by decide +kernel : decode cX7_readMore 74 = .ok (.getfield 66, 3))) rfl (by decide) (by decide) zin_7 (zl_f zo131 zw_806)) <|
  zcons (a := (77, zi_k (.int 2) 78)) (zs_iconst (M := 131) (pc := 77) (zd_eq zk131 (by decide +kernel : decode cX7_readMore 77 = .ok (.iconst 2, 1))) (by decide)) <|
  zcons (a := (78, zi_b2 (fun x y => ¬ x = y) 116 81)) (zs_icmpne (M := 131) (pc := 78) (zd_eq zk131 (by decide +kernel : decode cX7_readMore 78 = .ok (.if_icmp .ne 38, 3))) (by decide)) <|
  zcons (a := (81, zi_al 0 82)) (zs_al_n (M := 131) (pc := 81) (zd_eq zk131 (by decide +kernel : decode cX7_readMore 81 = .ok (.aload_n 0, 1)))) <|
  zcons (a := (82, zi_gi 7 11 85)) (zs_gi (M := 131) (pc := 82) (n := 0) (ci := 7) (k := 11) (C := RX7) (T := TX7) (N := 26) (zd_eq zk131 (by decide +kernel : decode cX7_readMore 82 = .ok (.getfield 76, 3))) rfl (by decide) (by decide) zin_7 (zl_f zo131 zw_807)) <|
  zcons (a := (85, zi_i2l 86)) (zs_i2l (M := 131) (pc := 85) (zd_eq zk131 (by decide +kernel : decode cX7_readMore 85 = .ok (.i2l, 1)))) <|
  zcons (a := (86, zi_k (.long 0) 87)) (zs_lconst (M := 131) (pc := 86) (zd_eq zk131 (by decide +kernel : decode cX7_readMore 86 = .ok (.lconst 0, 1))) (by decide)) <|
  zcons (a := (87, zi_k (.long 6) 90)) (zs_ldc2 (M := 131) (pc := 87) (zd_eq zk131 (by decide +kernel : decode cX7_readMore 87 = .ok (.ldc2_w 98, 3))) (zl_k2 zo131 zw_924)) <|
  zcons (a := (90, zi_cs 123 3 93 1)) (zs_cs (M := 131) (pc := 90) (M' := 123) (k := 3) (kd := 1) (zd_eq zk131 (by decide +kernel : decode cX7_readMore 90 = .ok (.invokestatic 49, 3))) zWd123 (zl_m zo131 zy123 zw_880) (zl_s zy123 zw_881)) <|
  zcons (a := (93, zi_b1 (fun x => x = 0) 116 96)) (zs_ifeq (M := 131) (pc := 93) (zd_eq zk131 (by decide +kernel : decode cX7_readMore 93 = .ok (.ifCond .eq 23, 3))) (by decide)) <|
  zcons (a := (96, zi_al 0 97)) (zs_al_n (M := 131) (pc := 96) (zd_eq zk131 (by decide +kernel : decode cX7_readMore 96 = .ok (.aload_n 0, 1)))) <|
  zcons (a := (97, zi_gi 7 2 100)) (zs_gi (M := 131) (pc := 97) (n := 0) (ci := 7) (k := 2) (C := RX7) (T := TX7) (N := 26) (zd_eq zk131 (by decide +kernel : decode cX7_readMore 97 = .ok (.getfield 100, 3))) rfl (by decide) (by decide) zin_7 (zl_f zo131 zw_798)) <|
  zcons (a := (100, zi_al 0 101)) (zs_al_n (M := 131) (pc := 100) (zd_eq zk131 (by decide +kernel : decode cX7_readMore 100 = .ok (.aload_n 0, 1)))) <|
  zcons (a := (101, zi_gi 7 11 104)) (zs_gi (M := 131) (pc := 101) (n := 0) (ci := 7) (k := 11) (C := RX7) (T := TX7) (N := 26) (zd_eq zk131 (by decide +kernel : decode cX7_readMore 101 = .ok (.getfield 76, 3))) rfl (by decide) (by decide) zin_7 (zl_f zo131 zw_807)) <|
  zcons (a := (104, zi_bin (fun x y => x >>> (y &&& 31)) 105)) (zs_ishr (M := 131) (pc := 104) (zd_eq zk131 (by decide +kernel : decode cX7_readMore 104 = .ok (.ishr, 1)))) <|
  zcons (a := (105, zi_k (.int 1) 106)) (zs_iconst (M := 131) (pc := 105) (zd_eq zk131 (by decide +kernel : decode cX7_readMore 105 = .ok (.iconst 1, 1))) (by decide)) <|
  zcons (a := (106, zi_bin (· &&& ·) 107)) (zs_iand (M := 131) (pc := 106) (zd_eq zk131 (by decide +kernel : decode cX7_readMore 106 = .ok (.iand, 1)))) <|
  zcons (a := (107, zi_k (.int 1) 108)) (zs_iconst (M := 131) (pc := 107) (zd_eq zk131 (by decide +kernel : decode cX7_readMore 107 = .ok (.iconst 1, 1))) (by decide)) <|
  zcons (a := (108, zi_b2 (fun x y => ¬ x = y) 116 111)) (zs_icmpne (M := 131) (pc := 108) (zd_eq zk131 (by decide +kernel : decode cX7_readMore 108 = .ok (.if_icmp .ne 8, 3))) (by decide)) <|
  zcons (a := (111, zi_al 0 112)) (zs_al_n (M := 131) (pc := 111) (zd_eq zk131 (by decide +kernel : decode cX7_readMore 111 = .ok (.aload_n 0, 1)))) <|
  zcons (a := (112, zi_k (.int 4) 113)) (zs_iconst (M := 131) (pc := 112) (zd_eq zk131 (by decide +kernel : decode cX7_readMore 112 = .ok (.iconst 4, 1))) (by decide)) <|
  zcons (a := (113, zi_cv 127 1 7 116 0)) (zs_cv (M := 131) (pc := 113) (M' := 127) (k := 1) (kd := 0) (ci := 7) (q := (RX7, TX7, 26)) (zd_eq zk131 (by decide +kernel : decode cX7_readMore 113 = .ok (.invokevirtual 87, 3))) zWd127 (zl_m zo131 zy127 zw_903) (zl_i zy127 zw_905) (zl_e zy127 zw_22) (by decide) rfl (by rw [zo127])) <|
  zcons (a := (116, zi_al 0 117)) (zs_al_n (M := 131) (pc := 116) (zd_eq zk131 (by decide +kernel : decode cX7_readMore 116 = .ok (.aload_n 0, 1)))) <|
  zcons (a := (117, zi_k (.int 0) 118)) (zs_iconst (M := 131) (pc := 117) (zd_eq zk131 (by decide +kernel : decode cX7_readMore 117 = .ok (.iconst 0, 1))) (by decide)) <| znil
theorem zS131_3 : ∀ q ∈ zm_c131_3, zm_Snd 131 q.1 q.2 :=
  zcons (a := (118, zi_k (.int 6) 120)) (zs_bipush (M := 131) (pc := 118) (zd_eq zk131 (by decide +kernel : decode cX7_readMore 118 = .ok (.bipush 6, 2))) (by decide)) <|
  zcons (a := (120, zi_cv 130 2 7 123 1)) (zs_cv (M := 131) (pc := 120) (M' := 130) (k := 2) (kd := 1) (ci := 7) (q := (RX7, TX7, 26)) (zd_eq zk131 (by decide +kernel : decode cX7_readMore 120 = .ok (.invokevirtual 94, 3))) zWd130 (zl_m zo131 zy130 zw_920) (zl_i zy130 zw_922) (zl_e zy130 zw_26) (by decide) rfl (by rw [zo130])) <|
  zcons (a := (123, zi_is 2 124)) (zs_is_n (M := 131) (pc := 123) (zd_eq zk131 (by decide +kernel : decode cX7_readMore 123 = .ok (.istore_n 2, 1))) (by decide +kernel) (by decide +kernel)) <|
  zcons (a := (124, zi_al 0 125)) (zs_al_n (M := 131) (pc := 124) (zd_eq zk131 (by decide +kernel : decode cX7_readMore 124 = .ok (.aload_n 0, 1)))) <|
  zcons (a := (125, zi_dup 126)) (zs_dup (M := 131) (pc := 125) (zd_eq zk131 (by decide +kernel : decode cX7_readMore 125 = .ok (.dup, 1)))) <|
  zcons (a := (126, zi_gi 7 2 129)) (zs_gi (M := 131) (pc := 126) (n := 0) (ci := 7) (k := 2) (C := RX7) (T := TX7) (N := 26) (zd_eq zk131 (by decide +kernel : decode cX7_readMore 126 = .ok (.getfield 100, 3))) rfl (by decide) (by decide) zin_7 (zl_f zo131 zw_798)) <|
  zcons (a := (129, zi_k (.int 1) 130)) (zs_iconst (M := 131) (pc := 129) (zd_eq zk131 (by decide +kernel : decode cX7_readMore 129 = .ok (.iconst 1, 1))) (by decide)) <|
  zcons (a := (130, zi_il 2 131)) (zs_il_n (M := 131) (pc := 130) (zd_eq zk131 (by decide +kernel : decode cX7_readMore 130 = .ok (.iload_n 2, 1)))) <|
  zcons (a := (131, zi_bin (fun x y => x <<< (y &&& 31)) 132)) (zs_ishl (M := 131) (pc := 131) (zd_eq zk131 (by decide +kernel : decode cX7_readMore 131 = .ok (.ishl, 1)))) <|
  zcons (a := (132, zi_bin (· ||| ·) 133)) (zs_ior (M := 131) (pc := 132) (zd_eq zk131 (by decide +kernel : decode cX7_readMore 132 = .ok (.ior, 1)))) <|
  zcons (a := (133, zi_pf 7 2 136)) (zs_pf (M := 131) (pc := 133) (ci := 7) (k := 2) (C := RX7) (T := TX7) (N := 26) (ty0 := tyX7) (zd_eq zk131 (by decide +kernel : decode cX7_readMore 133 = .ok (.putfield 100, 3))) rfl (by decide) (by decide) zin_7 (zl_f zo131 zw_798) tyX7_ok nmX7 rfl (tyX7_ok 2 (by decide))) <|
  zcons (a := (136, zi_al 0 137)) (zs_al_n (M := 131) (pc := 136) (zd_eq zk131 (by decide +kernel : decode cX7_readMore 136 = .ok (.aload_n 0, 1)))) <|
  zcons (a := (137, zi_gr 7 1 140)) (zs_gr (M := 131) (pc := 137) (n := 0) (ci := 7) (k := 1) (C := RX7) (T := TX7) (N := 26) (zd_eq zk131 (by decide +kernel : decode cX7_readMore 137 = .ok (.getfield 13, 3))) rfl (by decide) (by decide) zin_7 (zl_f zo131 zw_797)) <|
  zcons (a := (140, zi_k (.int 16) 142)) (zs_bipush (M := 131) (pc := 140) (zd_eq zk131 (by decide +kernel : decode cX7_readMore 140 = .ok (.bipush 16, 2))) (by decide)) <|
  zcons (a := (142, zi_il 2 143)) (zs_il_n (M := 131) (pc := 142) (zd_eq zk131 (by decide +kernel : decode cX7_readMore 142 = .ok (.iload_n 2, 1)))) <|
  zcons (a := (143, zi_bin (· + ·) 144)) (zs_iadd (M := 131) (pc := 143) (zd_eq zk131 (by decide +kernel : decode cX7_readMore 143 = .ok (.iadd, 1)))) <|
  zcons (a := (144, zi_al 0 145)) (zs_al_n (M := 131) (pc := 144) (zd_eq zk131 (by decide +kernel : decode cX7_readMore 144 = .ok (.aload_n 0, 1)))) <|
  zcons (a := (145, zi_k (.int 0) 146)) (zs_iconst (M := 131) (pc := 145) (zd_eq zk131 (by decide +kernel : decode cX7_readMore 145 = .ok (.iconst 0, 1))) (by decide)) <|
  zcons (a := (146, zi_k (.int 9) 148)) (zs_bipush (M := 131) (pc := 146) (zd_eq zk131 (by decide +kernel : decode cX7_readMore 146 = .ok (.bipush 9, 2))) (by decide)) <|
  zcons (a := (148, zi_cv 130 2 7 151 1)) (zs_cv (M := 131) (pc := 148) (M' := 130) (k := 2) (kd := 1) (ci := 7) (q := (RX7, TX7, 26)) (zd_eq zk131 (by decide +kernel : decode cX7_readMore 148 = .ok (.invokevirtual 94, 3))) zWd130 (zl_m zo131 zy130 zw_920) (zl_i zy130 zw_922) (zl_e zy130 zw_26) (by decide) rfl (by rw [zo130])) <|
  zcons (a := (151, zi_k (.int 1) 152)) (zs_iconst (M := 131) (pc := 151) (zd_eq zk131 (by decide +kernel : decode cX7_readMore 151 = .ok (.iconst 1, 1))) (by decide)) <|
  zcons (a := (152, zi_bin (· - ·) 153)) (zs_isub (M := 131) (pc := 152) (zd_eq zk131 (by decide +kernel : decode cX7_readMore 152 = .ok (.isub, 1)))) <|
  zcons (a := (153, zi_ast 0 (fun x => x) 154)) (zs_iast (M := 131) (pc := 153) (zd_eq zk131 (by decide +kernel : decode cX7_readMore 153 = .ok (.iastore, 1)))) <|
  zcons (a := (154, zi_al 0 155)) (zs_al_n (M := 131) (pc := 154) (zd_eq zk131 (by decide +kernel : decode cX7_readMore 154 = .ok (.aload_n 0, 1)))) <| znil
theorem zS131_4 : ∀ q ∈ zm_c131_4, zm_Snd 131 q.1 q.2 :=
  zcons (a := (155, zi_gr 7 1 158)) (zs_gr (M := 131) (pc := 155) (n := 0) (ci := 7) (k := 1) (C := RX7) (T := TX7) (N := 26) (zd_eq zk131 (by decide +kernel : decode cX7_readMore 155 = .ok (.getfield 13, 3))) rfl (by decide) (by decide) zin_7 (zl_f zo131 zw_797)) <|
  zcons (a := (158, zi_k (.int 23) 160)) (zs_bipush (M := 131) (pc := 158) (zd_eq zk131 (by decide +kernel : decode cX7_readMore 158 = .ok (.bipush 23, 2))) (by decide)) <|
  zcons (a := (160, zi_il 2 161)) (zs_il_n (M := 131) (pc := 160) (zd_eq zk131 (by decide +kernel : decode cX7_readMore 160 = .ok (.iload_n 2, 1)))) <|
  zcons (a := (161, zi_bin (· + ·) 162)) (zs_iadd (M := 131) (pc := 161) (zd_eq zk131 (by decide +kernel : decode cX7_readMore 161 = .ok (.iadd, 1)))) <|
  zcons (a := (162, zi_al 0 163)) (zs_al_n (M := 131) (pc := 162) (zd_eq zk131 (by decide +kernel : decode cX7_readMore 162 = .ok (.aload_n 0, 1)))) <|
  zcons (a := (163, zi_k (.int 0) 164)) (zs_iconst (M := 131) (pc := 163) (zd_eq zk131 (by decide +kernel : decode cX7_readMore 163 = .ok (.iconst 0, 1))) (by decide)) <|
  zcons (a := (164, zi_k (.int 8) 166)) (zs_bipush (M := 131) (pc := 164) (zd_eq zk131 (by decide +kernel : decode cX7_readMore 164 = .ok (.bipush 8, 2))) (by decide)) <|
  zcons (a := (166, zi_cv 130 2 7 169 1)) (zs_cv (M := 131) (pc := 166) (M' := 130) (k := 2) (kd := 1) (ci := 7) (q := (RX7, TX7, 26)) (zd_eq zk131 (by decide +kernel : decode cX7_readMore 166 = .ok (.invokevirtual 94, 3))) zWd130 (zl_m zo131 zy130 zw_920) (zl_i zy130 zw_922) (zl_e zy130 zw_26) (by decide) rfl (by rw [zo130])) <|
  zcons (a := (169, zi_k (.int 4) 170)) (zs_iconst (M := 131) (pc := 169) (zd_eq zk131 (by decide +kernel : decode cX7_readMore 169 = .ok (.iconst 4, 1))) (by decide)) <|
  zcons (a := (170, zi_bin (· - ·) 171)) (zs_isub (M := 131) (pc := 170) (zd_eq zk131 (by decide +kernel : decode cX7_readMore 170 = .ok (.isub, 1)))) <|
  zcons (a := (171, zi_ast 0 (fun x => x) 172)) (zs_iast (M := 131) (pc := 171) (zd_eq zk131 (by decide +kernel : decode cX7_readMore 171 = .ok (.iastore, 1)))) <|
  zcons (a := (172, zi_rv)) (zs_rv (M := 131) (pc := 172) (zd_eq zk131 (by decide +kernel : decode cX7_readMore 172 = .ok (.return_, 1))) rfl) <| znil
theorem zS131 : ∀ pc, zm_Snd 131 pc (zm_lk2 zm_c131 pc) := zlk2 (zcons2 zS131_0 (zcons2 zS131_1 (zcons2 zS131_2 (zcons2 zS131_3 (zcons2 zS131_4 (znil2))))))
theorem zS132_0 : ∀ q ∈ zm_c132_0, zm_Snd 132 q.1 q.2 :=
  zcons (a := (0, zi_al 0 1)) (zs_al_n (M := 132) (pc := 0) (zd_eq zk132 (by decide +kernel : decode cX7_readLine 0 = .ok (.aload_n 0, 1)))) <|
  zcons (a := (1, zi_cv 128 0 7 4 1)) (zs_cv (M := 132) (pc := 1) (M' := 128) (k := 0) (kd := 1) (ci := 7) (q := (RX7, TX7, 26)) (zd_eq zk132 (by decide +kernel : decode cX7_readLine 1 = .ok (.invokevirtual 103, 3))) zWd128 (zl_m zo132 zy128 zw_911) (zl_i zy128 zw_913) (zl_e zy128 zw_24) (by decide) rfl (by rw [zo128])) <|
  zcons (a := (4, zi_is 1 5)) (zs_is_n (M := 132) (pc := 4) (zd_eq zk132 (by decide +kernel : decode cX7_readLine 4 = .ok (.istore_n 1, 1))) (by decide +kernel) (by decide +kernel)) <|
  zcons (a := (5, zi_il 1 6)) (zs_il_n (M := 132) (pc := 5) (zd_eq zk132 (by decide +kernel : decode cX7_readLine 5 = .ok (.iload_n 1, 1)))) <|
  zcons (a := (6, zi_i2l 7)) (zs_i2l (M := 132) (pc := 6) (zd_eq zk132 (by decide +kernel : decode cX7_readLine 6 = .ok (.i2l, 1)))) <|
  zcons (a := (7, zi_k (.long 0) 8)) (zs_lconst (M := 132) (pc := 7) (zd_eq zk132 (by decide +kernel : decode cX7_readLine 7 = .ok (.lconst 0, 1))) (by decide)) <|
  zcons (a := (8, zi_k (.long 4) 11)) (zs_ldc2 (M := 132) (pc := 8) (zd_eq zk132 (by decide +kernel : decode cX7_readLine 8 = .ok (.ldc2_w 107, 3))) (zl_k2 zo132 zw_915)) <|
  zcons (a := (11, zi_cs 123 3 14 1)) (zs_cs (M := 132) (pc := 11) (M' := 123) (k := 3) (kd := 1) (zd_eq zk132 (by decide +kernel : decode cX7_readLine 11 = .ok (.invokestatic 49, 3))) zWd123 (zl_m zo132 zy123 zw_880) (zl_s zy123 zw_881)) <|
  zcons (a := (14, zi_b1 (fun x => ¬ x = 0) 23 17)) (zs_ifne (M := 132) (pc := 14) (zd_eq zk132 (by decide +kernel : decode cX7_readLine 14 = .ok (.ifCond .ne 9, 3))) (by decide)) <|
  zcons (a := (17, zi_al 0 18)) (zs_al_n (M := 132) (pc := 17) (zd_eq zk132 (by decide +kernel : decode cX7_readLine 17 = .ok (.aload_n 0, 1)))) <|
  zcons (a := (18, zi_k (.int 2) 19)) (zs_iconst (M := 132) (pc := 18) (zd_eq zk132 (by decide +kernel : decode cX7_readLine 18 = .ok (.iconst 2, 1))) (by decide)) <|
  zcons (a := (19, zi_cv 127 1 7 22 0)) (zs_cv (M := 132) (pc := 19) (M' := 127) (k := 1) (kd := 0) (ci := 7) (q := (RX7, TX7, 26)) (zd_eq zk132 (by decide +kernel : decode cX7_readLine 19 = .ok (.invokevirtual 87, 3))) zWd127 (zl_m zo132 zy127 zw_903) (zl_i zy127 zw_905) (zl_e zy127 zw_22) (by decide) rfl (by rw [zo127])) <|
  zcons (a := (22, zi_rv)) (zs_rv (M := 132) (pc := 22) (zd_eq zk132 (by decide +kernel : decode cX7_readLine 22 = .ok (.return_, 1))) rfl) <|
  zcons (a := (23, zi_il 1 24)) (zs_il_n (M := 132) (pc := 23) (zd_eq zk132 (by decide +kernel : decode cX7_readLine 23 = .ok (.iload_n 1, 1)))) <|
  zcons (a := (24, zi_k (.int 3) 25)) (zs_iconst (M := 132) (pc := 24) (zd_eq zk132 (by decide +kernel : decode cX7_readLine 24 = .ok (.iconst 3, 1))) (by decide)) <|
  zcons (a := (25, zi_b2 (fun x y => y < x) 44 28)) (zs_icmpgt (M := 132) (pc := 25) (zd_eq zk132 (by decide +kernel : decode cX7_readLine 25 = .ok (.if_icmp .gt 19, 3))) (by decide)) <|
  zcons (a := (28, zi_al 0 29)) (zs_al_n (M := 132) (pc := 28) (zd_eq zk132 (by decide +kernel : decode cX7_readLine 28 = .ok (.aload_n 0, 1)))) <|
  zcons (a := (29, zi_gr 7 1 32)) (zs_gr (M := 132) (pc := 29) (n := 0) (ci := 7) (k := 1) (C := RX7) (T := TX7) (N := 26) (zd_eq zk132 (by decide +kernel : decode cX7_readLine 29 = .ok (.getfield 13, 3))) rfl (by decide) (by decide) zin_7 (zl_f zo132 zw_797)) <|
  zcons (a := (32, zi_k (.int 15) 34)) (zs_bipush (M := 132) (pc := 32) (zd_eq zk132 (by decide +kernel : decode cX7_readLine 32 = .ok (.bipush 15, 2))) (by decide)) <|
  zcons (a := (34, zi_ald 0 35)) (zs_iald (M := 132) (pc := 34) (zd_eq zk132 (by decide +kernel : decode cX7_readLine 34 = .ok (.iaload, 1)))) <|
  zcons (a := (35, zi_k (.int 5) 36)) (zs_iconst (M := 132) (pc := 35) (zd_eq zk132 (by decide +kernel : decode cX7_readLine 35 = .ok (.iconst 5, 1))) (by decide)) <|
  zcons (a := (36, zi_b2 (fun x y => ¬ x = y) 44 39)) (zs_icmpne (M := 132) (pc := 36) (zd_eq zk132 (by decide +kernel : decode cX7_readLine 36 = .ok (.if_icmp .ne 8, 3))) (by decide)) <|
  zcons (a := (39, zi_al 0 40)) (zs_al_n (M := 132) (pc := 39) (zd_eq zk132 (by decide +kernel : decode cX7_readLine 39 = .ok (.aload_n 0, 1)))) <|
  zcons (a := (40, zi_k (.int 5) 41)) (zs_iconst (M := 132) (pc := 40) (zd_eq zk132 (by decide +kernel : decode cX7_readLine 40 = .ok (.iconst 5, 1))) (by decide)) <| znil
theorem zS132_1 : ∀ q ∈ zm_c132_1, zm_Snd 132 q.1 q.2 :=
  zcons (a := (41, zi_cv 127 1 7 44 0)) (zs_cv (M := 132) (pc := 41) (M' := 127) (k := 1) (kd := 0) (ci := 7) (q := (RX7, TX7, 26)) (zd_eq zk132 (by decide +kernel : decode cX7_readLine 41 = .ok (.invokevirtual 87, 3))) zWd127 (zl_m zo132 zy127 zw_903) (zl_i zy127 zw_905) (zl_e zy127 zw_22) (by decide) rfl (by rw [zo127])) <|
  zcons (a := (44, zi_al 0 45)) (zs_al_n (M := 132) (pc := 44) (zd_eq zk132 (by decide +kernel : decode cX7_readLine 44 = .ok (.aload_n 0, 1)))) <|
  zcons (a := (45, zi_cv 129 0 7 48 0)) (zs_cv (M := 132) (pc := 45) (M' := 129) (k := 0) (kd := 0) (ci := 7) (q := (RX7, TX7, 26)) (zd_eq zk132 (by decide +kernel : decode cX7_readLine 45 = .ok (.invokevirtual 91, 3))) zWd129 (zl_m zo132 zy129 zw_891) (zl_i zy129 zw_893) (zl_e zy129 zw_20) (by decide) rfl (by rw [zo129])) <|
  zcons (a := (48, zi_al 0 49)) (zs_al_n (M := 132) (pc := 48) (zd_eq zk132 (by decide +kernel : decode cX7_readLine 48 = .ok (.aload_n 0, 1)))) <|
  zcons (a := (49, zi_gi 7 6 52)) (zs_gi (M := 132) (pc := 49) (n := 0) (ci := 7) (k := 6) (C := RX7) (T := TX7) (N := 26) (zd_eq zk132 (by decide +kernel : decode cX7_readLine 49 = .ok (.getfield 57, 3))) rfl (by decide) (by decide) zin_7 (zl_f zo132 zw_802)) <|
  zcons (a := (52, zi_b1 (fun x => x ≤ 0) 56 55)) (zs_ifle (M := 132) (pc := 52) (zd_eq zk132 (by decide +kernel : decode cX7_readLine 52 = .ok (.ifCond .le 4, 3))) (by decide)) <|
  zcons (a := (55, zi_rv)) (zs_rv (M := 132) (pc := 55) (zd_eq zk132 (by decide +kernel : decode cX7_readLine 55 = .ok (.return_, 1))) rfl) <|
  zcons (a := (56, zi_al 0 57)) (zs_al_n (M := 132) (pc := 56) (zd_eq zk132 (by decide +kernel : decode cX7_readLine 56 = .ok (.aload_n 0, 1)))) <|
  zcons (a := (57, zi_il 1 58)) (zs_il_n (M := 132) (pc := 57) (zd_eq zk132 (by decide +kernel : decode cX7_readLine 57 = .ok (.iload_n 1, 1)))) <|
  zcons (a := (58, zi_cv 131 1 7 61 0)) (zs_cv (M := 132) (pc := 58) (M' := 131) (k := 1) (kd := 0) (ci := 7) (q := (RX7, TX7, 26)) (zd_eq zk132 (by decide +kernel : decode cX7_readLine 58 = .ok (.invokevirtual 109, 3))) zWd131 (zl_m zo132 zy131 zw_916) (zl_i zy131 zw_918) (zl_e zy131 zw_25) (by decide) rfl (by rw [zo131])) <|
  zcons (a := (61, zi_al 0 62)) (zs_al_n (M := 132) (pc := 61) (zd_eq zk132 (by decide +kernel : decode cX7_readLine 61 = .ok (.aload_n 0, 1)))) <|
  zcons (a := (62, zi_gi 7 6 65)) (zs_gi (M := 132) (pc := 62) (n := 0) (ci := 7) (k := 6) (C := RX7) (T := TX7) (N := 26) (zd_eq zk132 (by decide +kernel : decode cX7_readLine 62 = .ok (.getfield 57, 3))) rfl (by decide) (by decide) zin_7 (zl_f zo132 zw_802)) <|
  zcons (a := (65, zi_b1 (fun x => ¬ x = 0) 81 68)) (zs_ifne (M := 132) (pc := 65) (zd_eq zk132 (by decide +kernel : decode cX7_readLine 65 = .ok (.ifCond .ne 16, 3))) (by decide)) <|
  zcons (a := (68, zi_al 0 69)) (zs_al_n (M := 132) (pc := 68) (zd_eq zk132 (by decide +kernel : decode cX7_readLine 68 = .ok (.aload_n 0, 1)))) <|
  zcons (a := (69, zi_gi 7 10 72)) (zs_gi (M := 132) (pc := 69) (n := 0) (ci := 7) (k := 10) (C := RX7) (T := TX7) (N := 26) (zd_eq zk132 (by decide +kernel : decode cX7_readLine 69 = .ok (.getfield 66, 3))) rfl (by decide) (by decide) zin_7 (zl_f zo132 zw_806)) <|
  zcons (a := (72, zi_k (.int 3) 73)) (zs_iconst (M := 132) (pc := 72) (zd_eq zk132 (by decide +kernel : decode cX7_readLine 72 = .ok (.iconst 3, 1))) (by decide)) <|
  zcons (a := (73, zi_b2 (fun x y => x = y) 81 76)) (zs_icmpeq (M := 132) (pc := 73) (zd_eq zk132 (by decide +kernel : decode cX7_readLine 73 = .ok (.if_icmp .eq 8, 3))) (by decide)) <|
  zcons (a := (76, zi_al 0 77)) (zs_al_n (M := 132) (pc := 76) (zd_eq zk132 (by decide +kernel : decode cX7_readLine 76 = .ok (.aload_n 0, 1)))) <|
  zcons (a := (77, zi_k (.int 2) 78)) (zs_iconst (M := 132) (pc := 77) (zd_eq zk132 (by decide +kernel : decode cX7_readLine 77 = .ok (.iconst 2, 1))) (by decide)) <|
  zcons (a := (78, zi_cv 127 1 7 81 0)) (zs_cv (M := 132) (pc := 78) (M' := 127) (k := 1) (kd := 0) (ci := 7) (q := (RX7, TX7, 26)) (zd_eq zk132 (by decide +kernel : decode cX7_readLine 78 = .ok (.invokevirtual 87, 3))) zWd127 (zl_m zo132 zy127 zw_903) (zl_i zy127 zw_905) (zl_e zy127 zw_22) (by decide) rfl (by rw [zo127])) <|
  zcons (a := (81, zi_al 0 82)) (zs_al_n (M := 132) (pc := 81) (zd_eq zk132 (by decide +kernel : decode cX7_readLine 81 = .ok (.aload_n 0, 1)))) <|
  zcons (a := (82, zi_cv 129 0 7 85 0)) (zs_cv (M := 132) (pc := 82) (M' := 129) (k := 0) (kd := 0) (ci := 7) (q := (RX7, TX7, 26)) (zd_eq zk132 (by decide +kernel : decode cX7_readLine 82 = .ok (.invokevirtual 91, 3))) zWd129 (zl_m zo132 zy129 zw_891) (zl_i zy129 zw_893) (zl_e zy129 zw_20) (by decide) rfl (by rw [zo129])) <|
  zcons (a := (85, zi_rv)) (zs_rv (M := 132) (pc := 85) (zd_eq zk132 (by decide +kernel : decode cX7_readLine 85 = .ok (.return_, 1))) rfl) <| znil
theorem zS132 : ∀ pc, zm_Snd 132 pc (zm_lk2 zm_c132 pc) := zlk2 (zcons2 zS132_0 (zcons2 zS132_1 (znil2)))
theorem zS133_0 : ∀ q ∈ zm_c133_0, zm_Snd 133 q.1 q.2 :=
  zcons (a := (0, zi_al 0 1)) (zs_al_n (M := 133) (pc := 0) (zd_eq zk133 (by decide +kernel : decode cX7_text 0 = .ok (.aload_n 0, 1)))) <|
  zcons (a := (1, zi_k (.int 0) 2)) (zs_iconst (M := 133) (pc := 1) (zd_eq zk133 (by decide +kernel : decode cX7_text 1 = .ok (.iconst 0, 1))) (by decide)) <|
  zcons (a := (2, zi_pf 7 6 5)) (zs_pf (M := 133) (pc := 2) (ci := 7) (k := 6) (C := RX7) (T := TX7) (N := 26) (ty0 := tyX7) (zd_eq zk133 (by decide +kernel : decode cX7_text 2 = .ok (.putfield 57, 3))) rfl (by decide) (by decide) zin_7 (zl_f zo133 zw_802) tyX7_ok nmX7 rfl (tyX7_ok 6 (by decide))) <|
  zcons (a := (5, zi_al 0 6)) (zs_al_n (M := 133) (pc := 5) (zd_eq zk133 (by decide +kernel : decode cX7_text 5 = .ok (.aload_n 0, 1)))) <|
  zcons (a := (6, zi_k (.int 0) 7)) (zs_iconst (M := 133) (pc := 6) (zd_eq zk133 (by decide +kernel : decode cX7_text 6 = .ok (.iconst 0, 1))) (by decide)) <|
  zcons (a := (7, zi_pf 7 8 10)) (zs_pf (M := 133) (pc := 7) (ci := 7) (k := 8) (C := RX7) (T := TX7) (N := 26) (ty0 := tyX7) (zd_eq zk133 (by decide +kernel : decode cX7_text 7 = .ok (.putfield 69, 3))) rfl (by decide) (by decide) zin_7 (zl_f zo133 zw_804) tyX7_ok nmX7 rfl (tyX7_ok 8 (by decide))) <|
  zcons (a := (10, zi_al 0 11)) (zs_al_n (M := 133) (pc := 10) (zd_eq zk133 (by decide +kernel : decode cX7_text 10 = .ok (.aload_n 0, 1)))) <|
  zcons (a := (11, zi_k (.int 0) 12)) (zs_iconst (M := 133) (pc := 11) (zd_eq zk133 (by decide +kernel : decode cX7_text 11 = .ok (.iconst 0, 1))) (by decide)) <|
  zcons (a := (12, zi_pf 7 2 15)) (zs_pf (M := 133) (pc := 12) (ci := 7) (k := 2) (C := RX7) (T := TX7) (N := 26) (ty0 := tyX7) (zd_eq zk133 (by decide +kernel : decode cX7_text 12 = .ok (.putfield 100, 3))) rfl (by decide) (by decide) zin_7 (zl_f zo133 zw_798) tyX7_ok nmX7 rfl (tyX7_ok 2 (by decide))) <|
  zcons (a := (15, zi_k (.int 0) 16)) (zs_iconst (M := 133) (pc := 15) (zd_eq zk133 (by decide +kernel : decode cX7_text 15 = .ok (.iconst 0, 1))) (by decide)) <|
  zcons (a := (16, zi_is 1 17)) (zs_is_n (M := 133) (pc := 16) (zd_eq zk133 (by decide +kernel : decode cX7_text 16 = .ok (.istore_n 1, 1))) (by decide +kernel) (by decide +kernel)) <|
  zcons (a := (17, zi_k (.int 0) 18)) (zs_iconst (M := 133) (pc := 17) (zd_eq zk133 (by decide +kernel : decode cX7_text 17 = .ok (.iconst 0, 1))) (by decide)) <|
  zcons (a := (18, zi_is 2 19)) (zs_is_n (M := 133) (pc := 18) (zd_eq zk133 (by decide +kernel : decode cX7_text 18 = .ok (.istore_n 2, 1))) (by decide +kernel) (by decide +kernel)) <|
  zcons (a := (19, zi_il 2 20)) (zs_il_n (M := 133) (pc := 19) (zd_eq zk133 (by decide +kernel : decode cX7_text 19 = .ok (.iload_n 2, 1)))) <|
  zcons (a := (20, zi_k (.int 31) 22)) (zs_bipush (M := 133) (pc := 20) (zd_eq zk133 (by decide +kernel : decode cX7_text 20 = .ok (.bipush 31, 2))) (by decide)) <|
  zcons (a := (22, zi_b2 (fun x y => y ≤ x) 38 25)) (zs_icmpge (M := 133) (pc := 22) (zd_eq zk133 (by decide +kernel : decode cX7_text 22 = .ok (.if_icmp .ge 16, 3))) (by decide)) <|
  zcons (a := (25, zi_al 0 26)) (zs_al_n (M := 133) (pc := 25) (zd_eq zk133 (by decide +kernel : decode cX7_text 25 = .ok (.aload_n 0, 1)))) <|
  zcons (a := (26, zi_gr 7 1 29)) (zs_gr (M := 133) (pc := 26) (n := 0) (ci := 7) (k := 1) (C := RX7) (T := TX7) (N := 26) (zd_eq zk133 (by decide +kernel : decode cX7_text 26 = .ok (.getfield 13, 3))) rfl (by decide) (by decide) zin_7 (zl_f zo133 zw_797)) <|
  zcons (a := (29, zi_il 2 30)) (zs_il_n (M := 133) (pc := 29) (zd_eq zk133 (by decide +kernel : decode cX7_text 29 = .ok (.iload_n 2, 1)))) <|
  zcons (a := (30, zi_k (.int 0) 31)) (zs_iconst (M := 133) (pc := 30) (zd_eq zk133 (by decide +kernel : decode cX7_text 30 = .ok (.iconst 0, 1))) (by decide)) <|
  zcons (a := (31, zi_ast 0 (fun x => x) 32)) (zs_iast (M := 133) (pc := 31) (zd_eq zk133 (by decide +kernel : decode cX7_text 31 = .ok (.iastore, 1)))) <|
  zcons (a := (32, zi_inc 2 1 35)) (zs_inc (M := 133) (pc := 32) (zd_eq zk133 (by decide +kernel : decode cX7_text 32 = .ok (.iinc 2 1, 3))) (by decide) (by decide +kernel) (by decide +kernel)) <|
  zcons (a := (35, zi_go 19)) (zs_goto (M := 133) (pc := 35) (zd_eq zk133 (by decide +kernel : decode cX7_text 35 = .ok (.goto (-16), 3))) (by decide)) <|
  zcons (a := (38, zi_al 0 39)) (zs_al_n (M := 133) (pc := 38) (zd_eq zk133 (by decide +kernel : decode cX7_text 38 = .ok (.aload_n 0, 1)))) <| znil
theorem zS133_1 : ∀ q ∈ zm_c133_1, zm_Snd 133 q.1 q.2 :=
  zcons (a := (39, zi_cv 129 0 7 42 0)) (zs_cv (M := 133) (pc := 39) (M' := 129) (k := 0) (kd := 0) (ci := 7) (q := (RX7, TX7, 26)) (zd_eq zk133 (by decide +kernel : decode cX7_text 39 = .ok (.invokevirtual 91, 3))) zWd129 (zl_m zo133 zy129 zw_891) (zl_i zy129 zw_893) (zl_e zy129 zw_20) (by decide) rfl (by rw [zo129])) <|
  zcons (a := (42, zi_al 0 43)) (zs_al_n (M := 133) (pc := 42) (zd_eq zk133 (by decide +kernel : decode cX7_text 42 = .ok (.aload_n 0, 1)))) <|
  zcons (a := (43, zi_gi 7 6 46)) (zs_gi (M := 133) (pc := 43) (n := 0) (ci := 7) (k := 6) (C := RX7) (T := TX7) (N := 26) (zd_eq zk133 (by decide +kernel : decode cX7_text 43 = .ok (.getfield 57, 3))) rfl (by decide) (by decide) zin_7 (zl_f zo133 zw_802)) <|
  zcons (a := (46, zi_b1 (fun x => ¬ x = 0) 66 49)) (zs_ifne (M := 133) (pc := 46) (zd_eq zk133 (by decide +kernel : decode cX7_text 46 = .ok (.ifCond .ne 20, 3))) (by decide)) <|
  zcons (a := (49, zi_al 0 50)) (zs_al_n (M := 133) (pc := 49) (zd_eq zk133 (by decide +kernel : decode cX7_text 49 = .ok (.aload_n 0, 1)))) <|
  zcons (a := (50, zi_gi 7 10 53)) (zs_gi (M := 133) (pc := 50) (n := 0) (ci := 7) (k := 10) (C := RX7) (T := TX7) (N := 26) (zd_eq zk133 (by decide +kernel : decode cX7_text 50 = .ok (.getfield 66, 3))) rfl (by decide) (by decide) zin_7 (zl_f zo133 zw_806)) <|
  zcons (a := (53, zi_b1 (fun x => x = 0) 66 56)) (zs_ifeq (M := 133) (pc := 53) (zd_eq zk133 (by decide +kernel : decode cX7_text 53 = .ok (.ifCond .eq 13, 3))) (by decide)) <|
  zcons (a := (56, zi_al 0 57)) (zs_al_n (M := 133) (pc := 56) (zd_eq zk133 (by decide +kernel : decode cX7_text 56 = .ok (.aload_n 0, 1)))) <|
  zcons (a := (57, zi_cv 132 0 7 60 0)) (zs_cv (M := 133) (pc := 57) (M' := 132) (k := 0) (kd := 0) (ci := 7) (q := (RX7, TX7, 26)) (zd_eq zk133 (by decide +kernel : decode cX7_text 57 = .ok (.invokevirtual 112, 3))) zWd132 (zl_m zo133 zy132 zw_907) (zl_i zy132 zw_909) (zl_e zy132 zw_23) (by decide) rfl (by rw [zo132])) <|
  zcons (a := (60, zi_inc 1 1 63)) (zs_inc (M := 133) (pc := 60) (zd_eq zk133 (by decide +kernel : decode cX7_text 60 = .ok (.iinc 1 1, 3))) (by decide) (by decide +kernel) (by decide +kernel)) <|
  zcons (a := (63, zi_go 42)) (zs_goto (M := 133) (pc := 63) (zd_eq zk133 (by decide +kernel : decode cX7_text 63 = .ok (.goto (-21), 3))) (by decide)) <|
  zcons (a := (66, zi_al 0 67)) (zs_al_n (M := 133) (pc := 66) (zd_eq zk133 (by decide +kernel : decode cX7_text 66 = .ok (.aload_n 0, 1)))) <|
  zcons (a := (67, zi_k (.int 0) 68)) (zs_iconst (M := 133) (pc := 67) (zd_eq zk133 (by decide +kernel : decode cX7_text 67 = .ok (.iconst 0, 1))) (by decide)) <|
  zcons (a := (68, zi_pf 7 4 71)) (zs_pf (M := 133) (pc := 68) (ci := 7) (k := 4) (C := RX7) (T := TX7) (N := 26) (ty0 := tyX7) (zd_eq zk133 (by decide +kernel : decode cX7_text 68 = .ok (.putfield 53, 3))) rfl (by decide) (by decide) zin_7 (zl_f zo133 zw_800) tyX7_ok nmX7 rfl (tyX7_ok 4 (by decide))) <|
  zcons (a := (71, zi_al 0 72)) (zs_al_n (M := 133) (pc := 71) (zd_eq zk133 (by decide +kernel : decode cX7_text 71 = .ok (.aload_n 0, 1)))) <|
  zcons (a := (72, zi_al 0 73)) (zs_al_n (M := 133) (pc := 72) (zd_eq zk133 (by decide +kernel : decode cX7_text 72 = .ok (.aload_n 0, 1)))) <|
  zcons (a := (73, zi_gi 7 6 76)) (zs_gi (M := 133) (pc := 73) (n := 0) (ci := 7) (k := 6) (C := RX7) (T := TX7) (N := 26) (zd_eq zk133 (by decide +kernel : decode cX7_text 73 = .ok (.getfield 57, 3))) rfl (by decide) (by decide) zin_7 (zl_f zo133 zw_802)) <|
  zcons (a := (76, zi_pf 7 5 79)) (zs_pf (M := 133) (pc := 76) (ci := 7) (k := 5) (C := RX7) (T := TX7) (N := 26) (ty0 := tyX7) (zd_eq zk133 (by decide +kernel : decode cX7_text 76 = .ok (.putfield 115, 3))) rfl (by decide) (by decide) zin_7 (zl_f zo133 zw_801) tyX7_ok nmX7 rfl (tyX7_ok 5 (by decide))) <|
  zcons (a := (79, zi_al 0 80)) (zs_al_n (M := 133) (pc := 79) (zd_eq zk133 (by decide +kernel : decode cX7_text 79 = .ok (.aload_n 0, 1)))) <|
  zcons (a := (80, zi_gi 7 6 83)) (zs_gi (M := 133) (pc := 80) (n := 0) (ci := 7) (k := 6) (C := RX7) (T := TX7) (N := 26) (zd_eq zk133 (by decide +kernel : decode cX7_text 80 = .ok (.getfield 57, 3))) rfl (by decide) (by decide) zin_7 (zl_f zo133 zw_802)) <|
  zcons (a := (83, zi_b1 (fun x => x ≤ 0) 94 86)) (zs_ifle (M := 133) (pc := 83) (zd_eq zk133 (by decide +kernel : decode cX7_text 83 = .ok (.ifCond .le 11, 3))) (by decide)) <|
  zcons (a := (86, zi_k (.int (-10)) 88)) (zs_bipush (M := 133) (pc := 86) (zd_eq zk133 (by decide +kernel : decode cX7_text 86 = .ok (.bipush (-10), 2))) (by decide)) <|
  zcons (a := (88, zi_al 0 89)) (zs_al_n (M := 133) (pc := 88) (zd_eq zk133 (by decide +kernel : decode cX7_text 88 = .ok (.aload_n 0, 1)))) <|
  zcons (a := (89, zi_gi 7 7 92)) (zs_gi (M := 133) (pc := 89) (n := 0) (ci := 7) (k := 7) (C := RX7) (T := TX7) (N := 26) (zd_eq zk133 (by decide +kernel : decode cX7_text 89 = .ok (.getfield 63, 3))) rfl (by decide) (by decide) zin_7 (zl_f zo133 zw_803)) <| znil
theorem zS133_2 : ∀ q ∈ zm_c133_2, zm_Snd 133 q.1 q.2 :=
  zcons (a := (92, zi_bin (· - ·) 93)) (zs_isub (M := 133) (pc := 92) (zd_eq zk133 (by decide +kernel : decode cX7_text 92 = .ok (.isub, 1)))) <|
  zcons (a := (93, zi_ri)) (zs_ri (M := 133) (pc := 93) (zd_eq zk133 (by decide +kernel : decode cX7_text 93 = .ok (.ireturn, 1))) rfl) <|
  zcons (a := (94, zi_k (.int 0) 95)) (zs_iconst (M := 133) (pc := 94) (zd_eq zk133 (by decide +kernel : decode cX7_text 94 = .ok (.iconst 0, 1))) (by decide)) <|
  zcons (a := (95, zi_is 2 96)) (zs_is_n (M := 133) (pc := 95) (zd_eq zk133 (by decide +kernel : decode cX7_text 95 = .ok (.istore_n 2, 1))) (by decide +kernel) (by decide +kernel)) <|
  zcons (a := (96, zi_il 2 97)) (zs_il_n (M := 133) (pc := 96) (zd_eq zk133 (by decide +kernel : decode cX7_text 96 = .ok (.iload_n 2, 1)))) <|
  zcons (a := (97, zi_k (.int 31) 99)) (zs_bipush (M := 133) (pc := 97) (zd_eq zk133 (by decide +kernel : decode cX7_text 97 = .ok (.bipush 31, 2))) (by decide)) <|
  zcons (a := (99, zi_b2 (fun x y => y ≤ x) 120 102)) (zs_icmpge (M := 133) (pc := 99) (zd_eq zk133 (by decide +kernel : decode cX7_text 99 = .ok (.if_icmp .ge 21, 3))) (by decide)) <|
  zcons (a := (102, zi_al 0 103)) (zs_al_n (M := 133) (pc := 102) (zd_eq zk133 (by decide +kernel : decode cX7_text 102 = .ok (.aload_n 0, 1)))) <|
  zcons (a := (103, zi_gr 7 0 106)) (zs_gr (M := 133) (pc := 103) (n := 0) (ci := 7) (k := 0) (C := RX7) (T := TX7) (N := 26) (zd_eq zk133 (by decide +kernel : decode cX7_text 103 = .ok (.getfield 7, 3))) rfl (by decide) (by decide) zin_7 (zl_f zo133 zw_796)) <|
  zcons (a := (106, zi_il 2 107)) (zs_il_n (M := 133) (pc := 106) (zd_eq zk133 (by decide +kernel : decode cX7_text 106 = .ok (.iload_n 2, 1)))) <|
  zcons (a := (107, zi_al 0 108)) (zs_al_n (M := 133) (pc := 107) (zd_eq zk133 (by decide +kernel : decode cX7_text 107 = .ok (.aload_n 0, 1)))) <|
  zcons (a := (108, zi_gr 7 1 111)) (zs_gr (M := 133) (pc := 108) (n := 0) (ci := 7) (k := 1) (C := RX7) (T := TX7) (N := 26) (zd_eq zk133 (by decide +kernel : decode cX7_text 108 = .ok (.getfield 13, 3))) rfl (by decide) (by decide) zin_7 (zl_f zo133 zw_797)) <|
  zcons (a := (111, zi_il 2 112)) (zs_il_n (M := 133) (pc := 111) (zd_eq zk133 (by decide +kernel : decode cX7_text 111 = .ok (.iload_n 2, 1)))) <|
  zcons (a := (112, zi_ald 0 113)) (zs_iald (M := 133) (pc := 112) (zd_eq zk133 (by decide +kernel : decode cX7_text 112 = .ok (.iaload, 1)))) <|
  zcons (a := (113, zi_ast 0 (fun x => x) 114)) (zs_iast (M := 133) (pc := 113) (zd_eq zk133 (by decide +kernel : decode cX7_text 113 = .ok (.iastore, 1)))) <|
  zcons (a := (114, zi_inc 2 1 117)) (zs_inc (M := 133) (pc := 114) (zd_eq zk133 (by decide +kernel : decode cX7_text 114 = .ok (.iinc 2 1, 3))) (by decide) (by decide +kernel) (by decide +kernel)) <|
  zcons (a := (117, zi_go 96)) (zs_goto (M := 133) (pc := 117) (zd_eq zk133 (by decide +kernel : decode cX7_text 117 = .ok (.goto (-21), 3))) (by decide)) <|
  zcons (a := (120, zi_al 0 121)) (zs_al_n (M := 133) (pc := 120) (zd_eq zk133 (by decide +kernel : decode cX7_text 120 = .ok (.aload_n 0, 1)))) <|
  zcons (a := (121, zi_k (.int 0) 122)) (zs_iconst (M := 133) (pc := 121) (zd_eq zk133 (by decide +kernel : decode cX7_text 121 = .ok (.iconst 0, 1))) (by decide)) <|
  zcons (a := (122, zi_pf 7 19 125)) (zs_pf (M := 133) (pc := 122) (ci := 7) (k := 19) (C := RX7) (T := TX7) (N := 26) (ty0 := tyX7) (zd_eq zk133 (by decide +kernel : decode cX7_text 122 = .ok (.putfield 118, 3))) rfl (by decide) (by decide) zin_7 (zl_f zo133 zw_815) tyX7_ok nmX7 rfl (tyX7_ok 19 (by decide))) <|
  zcons (a := (125, zi_al 0 126)) (zs_al_n (M := 133) (pc := 125) (zd_eq zk133 (by decide +kernel : decode cX7_text 125 = .ok (.aload_n 0, 1)))) <|
  zcons (a := (126, zi_gr 7 21 129)) (zs_gr (M := 133) (pc := 126) (n := 0) (ci := 7) (k := 21) (C := RX7) (T := TX7) (N := 26) (zd_eq zk133 (by decide +kernel : decode cX7_text 126 = .ok (.getfield 34, 3))) rfl (by decide) (by decide) zin_7 (zl_f zo133 zw_817)) <|
  zcons (a := (129, zi_k (.int 0) 130)) (zs_iconst (M := 133) (pc := 129) (zd_eq zk133 (by decide +kernel : decode cX7_text 129 = .ok (.iconst 0, 1))) (by decide)) <|
  zcons (a := (130, zi_k (.int 0) 131)) (zs_iconst (M := 133) (pc := 130) (zd_eq zk133 (by decide +kernel : decode cX7_text 130 = .ok (.iconst 0, 1))) (by decide)) <| znil
theorem zS133_3 : ∀ q ∈ zm_c133_3, zm_Snd 133 q.1 q.2 :=
  zcons (a := (131, zi_ast 2 (vp_nar .boolean) 132)) (zs_zast (M := 133) (pc := 131) (zd_eq zk133 (by decide +kernel : decode cX7_text 131 = .ok (.bastore, 1)))) <|
  zcons (a := (132, zi_al 0 133)) (zs_al_n (M := 133) (pc := 132) (zd_eq zk133 (by decide +kernel : decode cX7_text 132 = .ok (.aload_n 0, 1)))) <|
  zcons (a := (133, zi_gr 7 21 136)) (zs_gr (M := 133) (pc := 133) (n := 0) (ci := 7) (k := 21) (C := RX7) (T := TX7) (N := 26) (zd_eq zk133 (by decide +kernel : decode cX7_text 133 = .ok (.getfield 34, 3))) rfl (by decide) (by decide) zin_7 (zl_f zo133 zw_817)) <|
  zcons (a := (136, zi_k (.int 1) 137)) (zs_iconst (M := 133) (pc := 136) (zd_eq zk133 (by decide +kernel : decode cX7_text 136 = .ok (.iconst 1, 1))) (by decide)) <|
  zcons (a := (137, zi_k (.int 0) 138)) (zs_iconst (M := 133) (pc := 137) (zd_eq zk133 (by decide +kernel : decode cX7_text 137 = .ok (.iconst 0, 1))) (by decide)) <|
  zcons (a := (138, zi_ast 2 (vp_nar .boolean) 139)) (zs_zast (M := 133) (pc := 138) (zd_eq zk133 (by decide +kernel : decode cX7_text 138 = .ok (.bastore, 1)))) <|
  zcons (a := (139, zi_il 1 140)) (zs_il_n (M := 133) (pc := 139) (zd_eq zk133 (by decide +kernel : decode cX7_text 139 = .ok (.iload_n 1, 1)))) <|
  zcons (a := (140, zi_ri)) (zs_ri (M := 133) (pc := 140) (zd_eq zk133 (by decide +kernel : decode cX7_text 140 = .ok (.ireturn, 1))) rfl) <| znil
theorem zS133 : ∀ pc, zm_Snd 133 pc (zm_lk2 zm_c133 pc) := zlk2 (zcons2 zS133_0 (zcons2 zS133_1 (zcons2 zS133_2 (zcons2 zS133_3 (znil2)))))
theorem zS134_0 : ∀ q ∈ zm_c134_0, zm_Snd 134 q.1 q.2 :=
  zcons (a := (0, zi_al 0 1)) (zs_al_n (M := 134) (pc := 0) (zd_eq zk134 (by decide +kernel : decode cX7_fault 0 = .ok (.aload_n 0, 1)))) <|
  zcons (a := (1, zi_gi 7 5 4)) (zs_gi (M := 134) (pc := 1) (n := 0) (ci := 7) (k := 5) (C := RX7) (T := TX7) (N := 26) (zd_eq zk134 (by decide +kernel : decode cX7_fault 1 = .ok (.getfield 115, 3))) rfl (by decide) (by decide) zin_7 (zl_f zo134 zw_801)) <|
  zcons (a := (4, zi_ri)) (zs_ri (M := 134) (pc := 4) (zd_eq zk134 (by decide +kernel : decode cX7_fault 4 = .ok (.ireturn, 1))) rfl) <| znil
theorem zS134 : ∀ pc, zm_Snd 134 pc (zm_lk2 zm_c134 pc) := zlk2 (zcons2 zS134_0 (znil2))
theorem zS135_0 : ∀ q ∈ zm_c135_0, zm_Snd 135 q.1 q.2 :=
  zcons (a := (0, zi_il 1 1)) (zs_il_n (M := 135) (pc := 0) (zd_eq zk135 (by decide +kernel : decode cX7_isFigure 0 = .ok (.iload_n 1, 1)))) <|
  zcons (a := (1, zi_i2l 2)) (zs_i2l (M := 135) (pc := 1) (zd_eq zk135 (by decide +kernel : decode cX7_isFigure 1 = .ok (.i2l, 1)))) <|
  zcons (a := (2, zi_k (.long 0) 3)) (zs_lconst (M := 135) (pc := 2) (zd_eq zk135 (by decide +kernel : decode cX7_isFigure 2 = .ok (.lconst 0, 1))) (by decide)) <|
  zcons (a := (3, zi_al 0 4)) (zs_al_n (M := 135) (pc := 3) (zd_eq zk135 (by decide +kernel : decode cX7_isFigure 3 = .ok (.aload_n 0, 1)))) <|
  zcons (a := (4, zi_gr 7 0 7)) (zs_gr (M := 135) (pc := 4) (n := 0) (ci := 7) (k := 0) (C := RX7) (T := TX7) (N := 26) (zd_eq zk135 (by decide +kernel : decode cX7_isFigure 4 = .ok (.getfield 7, 3))) rfl (by decide) (by decide) zin_7 (zl_f zo135 zw_796)) <|
  zcons (a := (7, zi_k (.int 15) 9)) (zs_bipush (M := 135) (pc := 7) (zd_eq zk135 (by decide +kernel : decode cX7_isFigure 7 = .ok (.bipush 15, 2))) (by decide)) <|
  zcons (a := (9, zi_ald 0 10)) (zs_iald (M := 135) (pc := 9) (zd_eq zk135 (by decide +kernel : decode cX7_isFigure 9 = .ok (.iaload, 1)))) <|
  zcons (a := (10, zi_k (.int 1) 11)) (zs_iconst (M := 135) (pc := 10) (zd_eq zk135 (by decide +kernel : decode cX7_isFigure 10 = .ok (.iconst 1, 1))) (by decide)) <|
  zcons (a := (11, zi_bin (· - ·) 12)) (zs_isub (M := 135) (pc := 11) (zd_eq zk135 (by decide +kernel : decode cX7_isFigure 11 = .ok (.isub, 1)))) <|
  zcons (a := (12, zi_i2l 13)) (zs_i2l (M := 135) (pc := 12) (zd_eq zk135 (by decide +kernel : decode cX7_isFigure 12 = .ok (.i2l, 1)))) <|
  zcons (a := (13, zi_cs 123 3 16 1)) (zs_cs (M := 135) (pc := 13) (M' := 123) (k := 3) (kd := 1) (zd_eq zk135 (by decide +kernel : decode cX7_isFigure 13 = .ok (.invokestatic 49, 3))) zWd123 (zl_m zo135 zy123 zw_880) (zl_s zy123 zw_881)) <|
  zcons (a := (16, zi_rz)) (zs_rz (M := 135) (pc := 16) (zd_eq zk135 (by decide +kernel : decode cX7_isFigure 16 = .ok (.ireturn, 1))) rfl) <| znil
theorem zS135 : ∀ pc, zm_Snd 135 pc (zm_lk2 zm_c135 pc) := zlk2 (zcons2 zS135_0 (znil2))
theorem zS136_0 : ∀ q ∈ zm_c136_0, zm_Snd 136 q.1 q.2 :=
  zcons (a := (0, zi_al 0 1)) (zs_al_n (M := 136) (pc := 0) (zd_eq zk136 (by decide +kernel : decode cX7_warmOn 0 = .ok (.aload_n 0, 1)))) <|
  zcons (a := (1, zi_gr 7 0 4)) (zs_gr (M := 136) (pc := 1) (n := 0) (ci := 7) (k := 0) (C := RX7) (T := TX7) (N := 26) (zd_eq zk136 (by decide +kernel : decode cX7_warmOn 1 = .ok (.getfield 7, 3))) rfl (by decide) (by decide) zin_7 (zl_f zo136 zw_796)) <|
  zcons (a := (4, zi_il 1 5)) (zs_il_n (M := 136) (pc := 4) (zd_eq zk136 (by decide +kernel : decode cX7_warmOn 4 = .ok (.iload_n 1, 1)))) <|
  zcons (a := (5, zi_k (.int 16) 7)) (zs_bipush (M := 136) (pc := 5) (zd_eq zk136 (by decide +kernel : decode cX7_warmOn 5 = .ok (.bipush 16, 2))) (by decide)) <|
  zcons (a := (7, zi_bin (· + ·) 8)) (zs_iadd (M := 136) (pc := 7) (zd_eq zk136 (by decide +kernel : decode cX7_warmOn 7 = .ok (.iadd, 1)))) <|
  zcons (a := (8, zi_al 0 9)) (zs_al_n (M := 136) (pc := 8) (zd_eq zk136 (by decide +kernel : decode cX7_warmOn 8 = .ok (.aload_n 0, 1)))) <|
  zcons (a := (9, zi_gr 7 0 12)) (zs_gr (M := 136) (pc := 9) (n := 0) (ci := 7) (k := 0) (C := RX7) (T := TX7) (N := 26) (zd_eq zk136 (by decide +kernel : decode cX7_warmOn 9 = .ok (.getfield 7, 3))) rfl (by decide) (by decide) zin_7 (zl_f zo136 zw_796)) <|
  zcons (a := (12, zi_il 1 13)) (zs_il_n (M := 136) (pc := 12) (zd_eq zk136 (by decide +kernel : decode cX7_warmOn 12 = .ok (.iload_n 1, 1)))) <|
  zcons (a := (13, zi_k (.int 30) 15)) (zs_bipush (M := 136) (pc := 13) (zd_eq zk136 (by decide +kernel : decode cX7_warmOn 13 = .ok (.bipush 30, 2))) (by decide)) <|
  zcons (a := (15, zi_bin (· + ·) 16)) (zs_iadd (M := 136) (pc := 15) (zd_eq zk136 (by decide +kernel : decode cX7_warmOn 15 = .ok (.iadd, 1)))) <|
  zcons (a := (16, zi_ald 0 17)) (zs_iald (M := 136) (pc := 16) (zd_eq zk136 (by decide +kernel : decode cX7_warmOn 16 = .ok (.iaload, 1)))) <|
  zcons (a := (17, zi_k (.int 7) 19)) (zs_bipush (M := 136) (pc := 17) (zd_eq zk136 (by decide +kernel : decode cX7_warmOn 17 = .ok (.bipush 7, 2))) (by decide)) <|
  zcons (a := (19, zi_rem 20)) (zs_irem (M := 136) (pc := 19) (zd_eq zk136 (by decide +kernel : decode cX7_warmOn 19 = .ok (.irem, 1)))) <|
  zcons (a := (20, zi_bin (· + ·) 21)) (zs_iadd (M := 136) (pc := 20) (zd_eq zk136 (by decide +kernel : decode cX7_warmOn 20 = .ok (.iadd, 1)))) <|
  zcons (a := (21, zi_ald 0 22)) (zs_iald (M := 136) (pc := 21) (zd_eq zk136 (by decide +kernel : decode cX7_warmOn 21 = .ok (.iaload, 1)))) <|
  zcons (a := (22, zi_k (.int 1) 23)) (zs_iconst (M := 136) (pc := 22) (zd_eq zk136 (by decide +kernel : decode cX7_warmOn 22 = .ok (.iconst 1, 1))) (by decide)) <|
  zcons (a := (23, zi_bin (· + ·) 24)) (zs_iadd (M := 136) (pc := 23) (zd_eq zk136 (by decide +kernel : decode cX7_warmOn 23 = .ok (.iadd, 1)))) <|
  zcons (a := (24, zi_ri)) (zs_ri (M := 136) (pc := 24) (zd_eq zk136 (by decide +kernel : decode cX7_warmOn 24 = .ok (.ireturn, 1))) rfl) <| znil
theorem zS136 : ∀ pc, zm_Snd 136 pc (zm_lk2 zm_c136 pc) := zlk2 (zcons2 zS136_0 (znil2))
theorem zS137_0 : ∀ q ∈ zm_c137_0, zm_Snd 137 q.1 q.2 :=
  zcons (a := (0, zi_al 0 1)) (zs_al_n (M := 137) (pc := 0) (zd_eq zk137 (by decide +kernel : decode cX7_windOn 0 = .ok (.aload_n 0, 1)))) <|
  zcons (a := (1, zi_gr 7 0 4)) (zs_gr (M := 137) (pc := 1) (n := 0) (ci := 7) (k := 0) (C := RX7) (T := TX7) (N := 26) (zd_eq zk137 (by decide +kernel : decode cX7_windOn 1 = .ok (.getfield 7, 3))) rfl (by decide) (by decide) zin_7 (zl_f zo137 zw_796)) <|
  zcons (a := (4, zi_il 1 5)) (zs_il_n (M := 137) (pc := 4) (zd_eq zk137 (by decide +kernel : decode cX7_windOn 4 = .ok (.iload_n 1, 1)))) <|
  zcons (a := (5, zi_k (.int 23) 7)) (zs_bipush (M := 137) (pc := 5) (zd_eq zk137 (by decide +kernel : decode cX7_windOn 5 = .ok (.bipush 23, 2))) (by decide)) <|
  zcons (a := (7, zi_bin (· + ·) 8)) (zs_iadd (M := 137) (pc := 7) (zd_eq zk137 (by decide +kernel : decode cX7_windOn 7 = .ok (.iadd, 1)))) <|
  zcons (a := (8, zi_al 0 9)) (zs_al_n (M := 137) (pc := 8) (zd_eq zk137 (by decide +kernel : decode cX7_windOn 8 = .ok (.aload_n 0, 1)))) <|
  zcons (a := (9, zi_gr 7 0 12)) (zs_gr (M := 137) (pc := 9) (n := 0) (ci := 7) (k := 0) (C := RX7) (T := TX7) (N := 26) (zd_eq zk137 (by decide +kernel : decode cX7_windOn 9 = .ok (.getfield 7, 3))) rfl (by decide) (by decide) zin_7 (zl_f zo137 zw_796)) <|
  zcons (a := (12, zi_il 1 13)) (zs_il_n (M := 137) (pc := 12) (zd_eq zk137 (by decide +kernel : decode cX7_windOn 12 = .ok (.iload_n 1, 1)))) <|
  zcons (a := (13, zi_k (.int 30) 15)) (zs_bipush (M := 137) (pc := 13) (zd_eq zk137 (by decide +kernel : decode cX7_windOn 13 = .ok (.bipush 30, 2))) (by decide)) <|
  zcons (a := (15, zi_bin (· + ·) 16)) (zs_iadd (M := 137) (pc := 15) (zd_eq zk137 (by decide +kernel : decode cX7_windOn 15 = .ok (.iadd, 1)))) <|
  zcons (a := (16, zi_ald 0 17)) (zs_iald (M := 137) (pc := 16) (zd_eq zk137 (by decide +kernel : decode cX7_windOn 16 = .ok (.iaload, 1)))) <|
  zcons (a := (17, zi_k (.int 7) 19)) (zs_bipush (M := 137) (pc := 17) (zd_eq zk137 (by decide +kernel : decode cX7_windOn 17 = .ok (.bipush 7, 2))) (by decide)) <|
  zcons (a := (19, zi_rem 20)) (zs_irem (M := 137) (pc := 19) (zd_eq zk137 (by decide +kernel : decode cX7_windOn 19 = .ok (.irem, 1)))) <|
  zcons (a := (20, zi_bin (· + ·) 21)) (zs_iadd (M := 137) (pc := 20) (zd_eq zk137 (by decide +kernel : decode cX7_windOn 20 = .ok (.iadd, 1)))) <|
  zcons (a := (21, zi_ald 0 22)) (zs_iald (M := 137) (pc := 21) (zd_eq zk137 (by decide +kernel : decode cX7_windOn 21 = .ok (.iaload, 1)))) <|
  zcons (a := (22, zi_ri)) (zs_ri (M := 137) (pc := 22) (zd_eq zk137 (by decide +kernel : decode cX7_windOn 22 = .ok (.ireturn, 1))) rfl) <| znil
theorem zS137 : ∀ pc, zm_Snd 137 pc (zm_lk2 zm_c137 pc) := zlk2 (zcons2 zS137_0 (znil2))
theorem zS138_0 : ∀ q ∈ zm_c138_0, zm_Snd 138 q.1 q.2 :=
  zcons (a := (0, zi_al 0 1)) (zs_al_n (M := 138) (pc := 0) (zd_eq zk138 (by decide +kernel : decode cX7_meltsOn 0 = .ok (.aload_n 0, 1)))) <|
  zcons (a := (1, zi_gr 7 0 4)) (zs_gr (M := 138) (pc := 1) (n := 0) (ci := 7) (k := 0) (C := RX7) (T := TX7) (N := 26) (zd_eq zk138 (by decide +kernel : decode cX7_meltsOn 1 = .ok (.getfield 7, 3))) rfl (by decide) (by decide) zin_7 (zl_f zo138 zw_796)) <|
  zcons (a := (4, zi_il 1 5)) (zs_il_n (M := 138) (pc := 4) (zd_eq zk138 (by decide +kernel : decode cX7_meltsOn 4 = .ok (.iload_n 1, 1)))) <|
  zcons (a := (5, zi_il 2 6)) (zs_il_n (M := 138) (pc := 5) (zd_eq zk138 (by decide +kernel : decode cX7_meltsOn 5 = .ok (.iload_n 2, 1)))) <|
  zcons (a := (6, zi_bin (· + ·) 7)) (zs_iadd (M := 138) (pc := 6) (zd_eq zk138 (by decide +kernel : decode cX7_meltsOn 6 = .ok (.iadd, 1)))) <|
  zcons (a := (7, zi_ald 0 8)) (zs_iald (M := 138) (pc := 7) (zd_eq zk138 (by decide +kernel : decode cX7_meltsOn 7 = .ok (.iaload, 1)))) <|
  zcons (a := (8, zi_is 4 10)) (zs_is_w (M := 138) (pc := 8) (zd_eq zk138 (by decide +kernel : decode cX7_meltsOn 8 = .ok (.istore 4, 2))) (by decide +kernel) (by decide +kernel)) <|
  zcons (a := (10, zi_il 3 11)) (zs_il_n (M := 138) (pc := 10) (zd_eq zk138 (by decide +kernel : decode cX7_meltsOn 10 = .ok (.iload_n 3, 1)))) <|
  zcons (a := (11, zi_k (.int 2) 12)) (zs_iconst (M := 138) (pc := 11) (zd_eq zk138 (by decide +kernel : decode cX7_meltsOn 11 = .ok (.iconst 2, 1))) (by decide)) <|
  zcons (a := (12, zi_div 13)) (zs_idiv (M := 138) (pc := 12) (zd_eq zk138 (by decide +kernel : decode cX7_meltsOn 12 = .ok (.idiv, 1)))) <|
  zcons (a := (13, zi_is 5 15)) (zs_is_w (M := 138) (pc := 13) (zd_eq zk138 (by decide +kernel : decode cX7_meltsOn 13 = .ok (.istore 5, 2))) (by decide +kernel) (by decide +kernel)) <|
  zcons (a := (15, zi_il 4 17)) (zs_il_w (M := 138) (pc := 15) (zd_eq zk138 (by decide +kernel : decode cX7_meltsOn 15 = .ok (.iload 4, 2)))) <|
  zcons (a := (17, zi_b1 (fun x => ¬ x = 0) 24 20)) (zs_ifne (M := 138) (pc := 17) (zd_eq zk138 (by decide +kernel : decode cX7_meltsOn 17 = .ok (.ifCond .ne 7, 3))) (by decide)) <|
  zcons (a := (20, zi_il 3 21)) (zs_il_n (M := 138) (pc := 20) (zd_eq zk138 (by decide +kernel : decode cX7_meltsOn 20 = .ok (.iload_n 3, 1)))) <|
  zcons (a := (21, zi_go 60)) (zs_goto (M := 138) (pc := 21) (zd_eq zk138 (by decide +kernel : decode cX7_meltsOn 21 = .ok (.goto 39, 3))) (by decide)) <|
  zcons (a := (24, zi_il 4 26)) (zs_il_w (M := 138) (pc := 24) (zd_eq zk138 (by decide +kernel : decode cX7_meltsOn 24 = .ok (.iload 4, 2)))) <|
  zcons (a := (26, zi_k (.int 1) 27)) (zs_iconst (M := 138) (pc := 26) (zd_eq zk138 (by decide +kernel : decode cX7_meltsOn 26 = .ok (.iconst 1, 1))) (by decide)) <|
  zcons (a := (27, zi_b2 (fun x y => ¬ x = y) 35 30)) (zs_icmpne (M := 138) (pc := 27) (zd_eq zk138 (by decide +kernel : decode cX7_meltsOn 27 = .ok (.if_icmp .ne 8, 3))) (by decide)) <|
  zcons (a := (30, zi_il 5 32)) (zs_il_w (M := 138) (pc := 30) (zd_eq zk138 (by decide +kernel : decode cX7_meltsOn 30 = .ok (.iload 5, 2)))) <|
  zcons (a := (32, zi_go 60)) (zs_goto (M := 138) (pc := 32) (zd_eq zk138 (by decide +kernel : decode cX7_meltsOn 32 = .ok (.goto 28, 3))) (by decide)) <|
  zcons (a := (35, zi_il 4 37)) (zs_il_w (M := 138) (pc := 35) (zd_eq zk138 (by decide +kernel : decode cX7_meltsOn 35 = .ok (.iload 4, 2)))) <|
  zcons (a := (37, zi_k (.int 2) 38)) (zs_iconst (M := 138) (pc := 37) (zd_eq zk138 (by decide +kernel : decode cX7_meltsOn 37 = .ok (.iconst 2, 1))) (by decide)) <|
  zcons (a := (38, zi_b2 (fun x y => ¬ x = y) 47 41)) (zs_icmpne (M := 138) (pc := 38) (zd_eq zk138 (by decide +kernel : decode cX7_meltsOn 38 = .ok (.if_icmp .ne 9, 3))) (by decide)) <|
  zcons (a := (41, zi_k (.int 2) 42)) (zs_iconst (M := 138) (pc := 41) (zd_eq zk138 (by decide +kernel : decode cX7_meltsOn 41 = .ok (.iconst 2, 1))) (by decide)) <| znil
theorem zS138_1 : ∀ q ∈ zm_c138_1, zm_Snd 138 q.1 q.2 :=
  zcons (a := (42, zi_il 3 43)) (zs_il_n (M := 138) (pc := 42) (zd_eq zk138 (by decide +kernel : decode cX7_meltsOn 42 = .ok (.iload_n 3, 1)))) <|
  zcons (a := (43, zi_bin (· * ·) 44)) (zs_imul (M := 138) (pc := 43) (zd_eq zk138 (by decide +kernel : decode cX7_meltsOn 43 = .ok (.imul, 1)))) <|
  zcons (a := (44, zi_go 60)) (zs_goto (M := 138) (pc := 44) (zd_eq zk138 (by decide +kernel : decode cX7_meltsOn 44 = .ok (.goto 16, 3))) (by decide)) <|
  zcons (a := (47, zi_il 5 49)) (zs_il_w (M := 138) (pc := 47) (zd_eq zk138 (by decide +kernel : decode cX7_meltsOn 47 = .ok (.iload 5, 2)))) <|
  zcons (a := (49, zi_b1 (fun x => x ≤ 0) 59 52)) (zs_ifle (M := 138) (pc := 49) (zd_eq zk138 (by decide +kernel : decode cX7_meltsOn 49 = .ok (.ifCond .le 10, 3))) (by decide)) <|
  zcons (a := (52, zi_il 5 54)) (zs_il_w (M := 138) (pc := 52) (zd_eq zk138 (by decide +kernel : decode cX7_meltsOn 52 = .ok (.iload 5, 2)))) <|
  zcons (a := (54, zi_k (.int 1) 55)) (zs_iconst (M := 138) (pc := 54) (zd_eq zk138 (by decide +kernel : decode cX7_meltsOn 54 = .ok (.iconst 1, 1))) (by decide)) <|
  zcons (a := (55, zi_bin (· - ·) 56)) (zs_isub (M := 138) (pc := 55) (zd_eq zk138 (by decide +kernel : decode cX7_meltsOn 55 = .ok (.isub, 1)))) <|
  zcons (a := (56, zi_go 60)) (zs_goto (M := 138) (pc := 56) (zd_eq zk138 (by decide +kernel : decode cX7_meltsOn 56 = .ok (.goto 4, 3))) (by decide)) <|
  zcons (a := (59, zi_k (.int 0) 60)) (zs_iconst (M := 138) (pc := 59) (zd_eq zk138 (by decide +kernel : decode cX7_meltsOn 59 = .ok (.iconst 0, 1))) (by decide)) <|
  zcons (a := (60, zi_is 6 62)) (zs_is_w (M := 138) (pc := 60) (zd_eq zk138 (by decide +kernel : decode cX7_meltsOn 60 = .ok (.istore 6, 2))) (by decide +kernel) (by decide +kernel)) <|
  zcons (a := (62, zi_il 6 64)) (zs_il_w (M := 138) (pc := 62) (zd_eq zk138 (by decide +kernel : decode cX7_meltsOn 62 = .ok (.iload 6, 2)))) <|
  zcons (a := (64, zi_al 0 65)) (zs_al_n (M := 138) (pc := 64) (zd_eq zk138 (by decide +kernel : decode cX7_meltsOn 64 = .ok (.aload_n 0, 1)))) <|
  zcons (a := (65, zi_gr 7 0 68)) (zs_gr (M := 138) (pc := 65) (n := 0) (ci := 7) (k := 0) (C := RX7) (T := TX7) (N := 26) (zd_eq zk138 (by decide +kernel : decode cX7_meltsOn 65 = .ok (.getfield 7, 3))) rfl (by decide) (by decide) zin_7 (zl_f zo138 zw_796)) <|
  zcons (a := (68, zi_il 1 69)) (zs_il_n (M := 138) (pc := 68) (zd_eq zk138 (by decide +kernel : decode cX7_meltsOn 68 = .ok (.iload_n 1, 1)))) <|
  zcons (a := (69, zi_k (.int 5) 70)) (zs_iconst (M := 138) (pc := 69) (zd_eq zk138 (by decide +kernel : decode cX7_meltsOn 69 = .ok (.iconst 5, 1))) (by decide)) <|
  zcons (a := (70, zi_bin (· + ·) 71)) (zs_iadd (M := 138) (pc := 70) (zd_eq zk138 (by decide +kernel : decode cX7_meltsOn 70 = .ok (.iadd, 1)))) <|
  zcons (a := (71, zi_il 2 72)) (zs_il_n (M := 138) (pc := 71) (zd_eq zk138 (by decide +kernel : decode cX7_meltsOn 71 = .ok (.iload_n 2, 1)))) <|
  zcons (a := (72, zi_bin (· + ·) 73)) (zs_iadd (M := 138) (pc := 72) (zd_eq zk138 (by decide +kernel : decode cX7_meltsOn 72 = .ok (.iadd, 1)))) <|
  zcons (a := (73, zi_ald 0 74)) (zs_iald (M := 138) (pc := 73) (zd_eq zk138 (by decide +kernel : decode cX7_meltsOn 73 = .ok (.iaload, 1)))) <|
  zcons (a := (74, zi_b2 (fun x y => y ≤ x) 82 77)) (zs_icmpge (M := 138) (pc := 74) (zd_eq zk138 (by decide +kernel : decode cX7_meltsOn 74 = .ok (.if_icmp .ge 8, 3))) (by decide)) <|
  zcons (a := (77, zi_il 6 79)) (zs_il_w (M := 138) (pc := 77) (zd_eq zk138 (by decide +kernel : decode cX7_meltsOn 77 = .ok (.iload 6, 2)))) <|
  zcons (a := (79, zi_go 92)) (zs_goto (M := 138) (pc := 79) (zd_eq zk138 (by decide +kernel : decode cX7_meltsOn 79 = .ok (.goto 13, 3))) (by decide)) <|
  zcons (a := (82, zi_al 0 83)) (zs_al_n (M := 138) (pc := 82) (zd_eq zk138 (by decide +kernel : decode cX7_meltsOn 82 = .ok (.aload_n 0, 1)))) <| znil
theorem zS138_2 : ∀ q ∈ zm_c138_2, zm_Snd 138 q.1 q.2 :=
  zcons (a := (83, zi_gr 7 0 86)) (zs_gr (M := 138) (pc := 83) (n := 0) (ci := 7) (k := 0) (C := RX7) (T := TX7) (N := 26) (zd_eq zk138 (by decide +kernel : decode cX7_meltsOn 83 = .ok (.getfield 7, 3))) rfl (by decide) (by decide) zin_7 (zl_f zo138 zw_796)) <|
  zcons (a := (86, zi_il 1 87)) (zs_il_n (M := 138) (pc := 86) (zd_eq zk138 (by decide +kernel : decode cX7_meltsOn 86 = .ok (.iload_n 1, 1)))) <|
  zcons (a := (87, zi_k (.int 5) 88)) (zs_iconst (M := 138) (pc := 87) (zd_eq zk138 (by decide +kernel : decode cX7_meltsOn 87 = .ok (.iconst 5, 1))) (by decide)) <|
  zcons (a := (88, zi_bin (· + ·) 89)) (zs_iadd (M := 138) (pc := 88) (zd_eq zk138 (by decide +kernel : decode cX7_meltsOn 88 = .ok (.iadd, 1)))) <|
  zcons (a := (89, zi_il 2 90)) (zs_il_n (M := 138) (pc := 89) (zd_eq zk138 (by decide +kernel : decode cX7_meltsOn 89 = .ok (.iload_n 2, 1)))) <|
  zcons (a := (90, zi_bin (· + ·) 91)) (zs_iadd (M := 138) (pc := 90) (zd_eq zk138 (by decide +kernel : decode cX7_meltsOn 90 = .ok (.iadd, 1)))) <|
  zcons (a := (91, zi_ald 0 92)) (zs_iald (M := 138) (pc := 91) (zd_eq zk138 (by decide +kernel : decode cX7_meltsOn 91 = .ok (.iaload, 1)))) <|
  zcons (a := (92, zi_ri)) (zs_ri (M := 138) (pc := 92) (zd_eq zk138 (by decide +kernel : decode cX7_meltsOn 92 = .ok (.ireturn, 1))) rfl) <| znil
theorem zS138 : ∀ pc, zm_Snd 138 pc (zm_lk2 zm_c138 pc) := zlk2 (zcons2 zS138_0 (zcons2 zS138_1 (zcons2 zS138_2 (znil2))))
theorem zS139_0 : ∀ q ∈ zm_c139_0, zm_Snd 139 q.1 q.2 :=
  zcons (a := (0, zi_al 0 1)) (zs_al_n (M := 139) (pc := 0) (zd_eq zk139 (by decide +kernel : decode cX7_tipsOn 0 = .ok (.aload_n 0, 1)))) <|
  zcons (a := (1, zi_gr 7 0 4)) (zs_gr (M := 139) (pc := 1) (n := 0) (ci := 7) (k := 0) (C := RX7) (T := TX7) (N := 26) (zd_eq zk139 (by decide +kernel : decode cX7_tipsOn 1 = .ok (.getfield 7, 3))) rfl (by decide) (by decide) zin_7 (zl_f zo139 zw_796)) <|
  zcons (a := (4, zi_il 1 5)) (zs_il_n (M := 139) (pc := 4) (zd_eq zk139 (by decide +kernel : decode cX7_tipsOn 4 = .ok (.iload_n 1, 1)))) <|
  zcons (a := (5, zi_il 2 6)) (zs_il_n (M := 139) (pc := 5) (zd_eq zk139 (by decide +kernel : decode cX7_tipsOn 5 = .ok (.iload_n 2, 1)))) <|
  zcons (a := (6, zi_bin (· + ·) 7)) (zs_iadd (M := 139) (pc := 6) (zd_eq zk139 (by decide +kernel : decode cX7_tipsOn 6 = .ok (.iadd, 1)))) <|
  zcons (a := (7, zi_ald 0 8)) (zs_iald (M := 139) (pc := 7) (zd_eq zk139 (by decide +kernel : decode cX7_tipsOn 7 = .ok (.iaload, 1)))) <|
  zcons (a := (8, zi_is 4 10)) (zs_is_w (M := 139) (pc := 8) (zd_eq zk139 (by decide +kernel : decode cX7_tipsOn 8 = .ok (.istore 4, 2))) (by decide +kernel) (by decide +kernel)) <|
  zcons (a := (10, zi_il 3 11)) (zs_il_n (M := 139) (pc := 10) (zd_eq zk139 (by decide +kernel : decode cX7_tipsOn 10 = .ok (.iload_n 3, 1)))) <|
  zcons (a := (11, zi_b1 (fun x => 0 ≤ x) 22 14)) (zs_ifge (M := 139) (pc := 11) (zd_eq zk139 (by decide +kernel : decode cX7_tipsOn 11 = .ok (.ifCond .ge 11, 3))) (by decide)) <|
  zcons (a := (14, zi_il 3 15)) (zs_il_n (M := 139) (pc := 14) (zd_eq zk139 (by decide +kernel : decode cX7_tipsOn 14 = .ok (.iload_n 3, 1)))) <|
  zcons (a := (15, zi_un (fun x => -x) 16)) (zs_ineg (M := 139) (pc := 15) (zd_eq zk139 (by decide +kernel : decode cX7_tipsOn 15 = .ok (.ineg, 1)))) <|
  zcons (a := (16, zi_k (.int 2) 17)) (zs_iconst (M := 139) (pc := 16) (zd_eq zk139 (by decide +kernel : decode cX7_tipsOn 16 = .ok (.iconst 2, 1))) (by decide)) <|
  zcons (a := (17, zi_div 18)) (zs_idiv (M := 139) (pc := 17) (zd_eq zk139 (by decide +kernel : decode cX7_tipsOn 17 = .ok (.idiv, 1)))) <|
  zcons (a := (18, zi_un (fun x => -x) 19)) (zs_ineg (M := 139) (pc := 18) (zd_eq zk139 (by decide +kernel : decode cX7_tipsOn 18 = .ok (.ineg, 1)))) <|
  zcons (a := (19, zi_go 25)) (zs_goto (M := 139) (pc := 19) (zd_eq zk139 (by decide +kernel : decode cX7_tipsOn 19 = .ok (.goto 6, 3))) (by decide)) <|
  zcons (a := (22, zi_il 3 23)) (zs_il_n (M := 139) (pc := 22) (zd_eq zk139 (by decide +kernel : decode cX7_tipsOn 22 = .ok (.iload_n 3, 1)))) <|
  zcons (a := (23, zi_k (.int 2) 24)) (zs_iconst (M := 139) (pc := 23) (zd_eq zk139 (by decide +kernel : decode cX7_tipsOn 23 = .ok (.iconst 2, 1))) (by decide)) <|
  zcons (a := (24, zi_div 25)) (zs_idiv (M := 139) (pc := 24) (zd_eq zk139 (by decide +kernel : decode cX7_tipsOn 24 = .ok (.idiv, 1)))) <|
  zcons (a := (25, zi_is 5 27)) (zs_is_w (M := 139) (pc := 25) (zd_eq zk139 (by decide +kernel : decode cX7_tipsOn 25 = .ok (.istore 5, 2))) (by decide +kernel) (by decide +kernel)) <|
  zcons (a := (27, zi_il 4 29)) (zs_il_w (M := 139) (pc := 27) (zd_eq zk139 (by decide +kernel : decode cX7_tipsOn 27 = .ok (.iload 4, 2)))) <|
  zcons (a := (29, zi_b1 (fun x => x = 0) 38 32)) (zs_ifeq (M := 139) (pc := 29) (zd_eq zk139 (by decide +kernel : decode cX7_tipsOn 29 = .ok (.ifCond .eq 9, 3))) (by decide)) <|
  zcons (a := (32, zi_il 4 34)) (zs_il_w (M := 139) (pc := 32) (zd_eq zk139 (by decide +kernel : decode cX7_tipsOn 32 = .ok (.iload 4, 2)))) <|
  zcons (a := (34, zi_k (.int 2) 35)) (zs_iconst (M := 139) (pc := 34) (zd_eq zk139 (by decide +kernel : decode cX7_tipsOn 34 = .ok (.iconst 2, 1))) (by decide)) <|
  zcons (a := (35, zi_b2 (fun x y => ¬ x = y) 42 38)) (zs_icmpne (M := 139) (pc := 35) (zd_eq zk139 (by decide +kernel : decode cX7_tipsOn 35 = .ok (.if_icmp .ne 7, 3))) (by decide)) <| znil
theorem zS139_1 : ∀ q ∈ zm_c139_1, zm_Snd 139 q.1 q.2 :=
  zcons (a := (38, zi_il 3 39)) (zs_il_n (M := 139) (pc := 38) (zd_eq zk139 (by decide +kernel : decode cX7_tipsOn 38 = .ok (.iload_n 3, 1)))) <|
  zcons (a := (39, zi_go 57)) (zs_goto (M := 139) (pc := 39) (zd_eq zk139 (by decide +kernel : decode cX7_tipsOn 39 = .ok (.goto 18, 3))) (by decide)) <|
  zcons (a := (42, zi_il 4 44)) (zs_il_w (M := 139) (pc := 42) (zd_eq zk139 (by decide +kernel : decode cX7_tipsOn 42 = .ok (.iload 4, 2)))) <|
  zcons (a := (44, zi_k (.int 1) 45)) (zs_iconst (M := 139) (pc := 44) (zd_eq zk139 (by decide +kernel : decode cX7_tipsOn 44 = .ok (.iconst 1, 1))) (by decide)) <|
  zcons (a := (45, zi_b2 (fun x y => ¬ x = y) 53 48)) (zs_icmpne (M := 139) (pc := 45) (zd_eq zk139 (by decide +kernel : decode cX7_tipsOn 45 = .ok (.if_icmp .ne 8, 3))) (by decide)) <|
  zcons (a := (48, zi_il 5 50)) (zs_il_w (M := 139) (pc := 48) (zd_eq zk139 (by decide +kernel : decode cX7_tipsOn 48 = .ok (.iload 5, 2)))) <|
  zcons (a := (50, zi_go 57)) (zs_goto (M := 139) (pc := 50) (zd_eq zk139 (by decide +kernel : decode cX7_tipsOn 50 = .ok (.goto 7, 3))) (by decide)) <|
  zcons (a := (53, zi_k (.int 2) 54)) (zs_iconst (M := 139) (pc := 53) (zd_eq zk139 (by decide +kernel : decode cX7_tipsOn 53 = .ok (.iconst 2, 1))) (by decide)) <|
  zcons (a := (54, zi_il 5 56)) (zs_il_w (M := 139) (pc := 54) (zd_eq zk139 (by decide +kernel : decode cX7_tipsOn 54 = .ok (.iload 5, 2)))) <|
  zcons (a := (56, zi_bin (· * ·) 57)) (zs_imul (M := 139) (pc := 56) (zd_eq zk139 (by decide +kernel : decode cX7_tipsOn 56 = .ok (.imul, 1)))) <|
  zcons (a := (57, zi_ri)) (zs_ri (M := 139) (pc := 57) (zd_eq zk139 (by decide +kernel : decode cX7_tipsOn 57 = .ok (.ireturn, 1))) rfl) <| znil
theorem zS139 : ∀ pc, zm_Snd 139 pc (zm_lk2 zm_c139 pc) := zlk2 (zcons2 zS139_0 (zcons2 zS139_1 (znil2)))
theorem zS140_0 : ∀ q ∈ zm_c140_0, zm_Snd 140 q.1 q.2 :=
  zcons (a := (0, zi_k (.int 0) 1)) (zs_iconst (M := 140) (pc := 0) (zd_eq zk140 (by decide +kernel : decode cX7_dayOn 0 = .ok (.iconst 0, 1))) (by decide)) <|
  zcons (a := (1, zi_is 4 3)) (zs_is_w (M := 140) (pc := 1) (zd_eq zk140 (by decide +kernel : decode cX7_dayOn 1 = .ok (.istore 4, 2))) (by decide +kernel) (by decide +kernel)) <|
  zcons (a := (3, zi_il 4 5)) (zs_il_w (M := 140) (pc := 3) (zd_eq zk140 (by decide +kernel : decode cX7_dayOn 3 = .ok (.iload 4, 2)))) <|
  zcons (a := (5, zi_al 0 6)) (zs_al_n (M := 140) (pc := 5) (zd_eq zk140 (by decide +kernel : decode cX7_dayOn 5 = .ok (.aload_n 0, 1)))) <|
  zcons (a := (6, zi_gr 7 0 9)) (zs_gr (M := 140) (pc := 6) (n := 0) (ci := 7) (k := 0) (C := RX7) (T := TX7) (N := 26) (zd_eq zk140 (by decide +kernel : decode cX7_dayOn 6 = .ok (.getfield 7, 3))) rfl (by decide) (by decide) zin_7 (zl_f zo140 zw_796)) <|
  zcons (a := (9, zi_il 1 10)) (zs_il_n (M := 140) (pc := 9) (zd_eq zk140 (by decide +kernel : decode cX7_dayOn 9 = .ok (.iload_n 1, 1)))) <|
  zcons (a := (10, zi_k (.int 15) 12)) (zs_bipush (M := 140) (pc := 10) (zd_eq zk140 (by decide +kernel : decode cX7_dayOn 10 = .ok (.bipush 15, 2))) (by decide)) <|
  zcons (a := (12, zi_bin (· + ·) 13)) (zs_iadd (M := 140) (pc := 12) (zd_eq zk140 (by decide +kernel : decode cX7_dayOn 12 = .ok (.iadd, 1)))) <|
  zcons (a := (13, zi_ald 0 14)) (zs_iald (M := 140) (pc := 13) (zd_eq zk140 (by decide +kernel : decode cX7_dayOn 13 = .ok (.iaload, 1)))) <|
  zcons (a := (14, zi_b2 (fun x y => y ≤ x) 183 17)) (zs_icmpge (M := 140) (pc := 14) (zd_eq zk140 (by decide +kernel : decode cX7_dayOn 14 = .ok (.if_icmp .ge 169, 3))) (by decide)) <|
  zcons (a := (17, zi_al 0 18)) (zs_al_n (M := 140) (pc := 17) (zd_eq zk140 (by decide +kernel : decode cX7_dayOn 17 = .ok (.aload_n 0, 1)))) <|
  zcons (a := (18, zi_gr 7 0 21)) (zs_gr (M := 140) (pc := 18) (n := 0) (ci := 7) (k := 0) (C := RX7) (T := TX7) (N := 26) (zd_eq zk140 (by decide +kernel : decode cX7_dayOn 18 = .ok (.getfield 7, 3))) rfl (by decide) (by decide) zin_7 (zl_f zo140 zw_796)) <|
  zcons (a := (21, zi_il 1 22)) (zs_il_n (M := 140) (pc := 21) (zd_eq zk140 (by decide +kernel : decode cX7_dayOn 21 = .ok (.iload_n 1, 1)))) <|
  zcons (a := (22, zi_k (.int 5) 23)) (zs_iconst (M := 140) (pc := 22) (zd_eq zk140 (by decide +kernel : decode cX7_dayOn 22 = .ok (.iconst 5, 1))) (by decide)) <|
  zcons (a := (23, zi_bin (· + ·) 24)) (zs_iadd (M := 140) (pc := 23) (zd_eq zk140 (by decide +kernel : decode cX7_dayOn 23 = .ok (.iadd, 1)))) <|
  zcons (a := (24, zi_il 4 26)) (zs_il_w (M := 140) (pc := 24) (zd_eq zk140 (by decide +kernel : decode cX7_dayOn 24 = .ok (.iload 4, 2)))) <|
  zcons (a := (26, zi_bin (· + ·) 27)) (zs_iadd (M := 140) (pc := 26) (zd_eq zk140 (by decide +kernel : decode cX7_dayOn 26 = .ok (.iadd, 1)))) <|
  zcons (a := (27, zi_ald 0 28)) (zs_iald (M := 140) (pc := 27) (zd_eq zk140 (by decide +kernel : decode cX7_dayOn 27 = .ok (.iaload, 1)))) <|
  zcons (a := (28, zi_b1 (fun x => x ≤ 0) 177 31)) (zs_ifle (M := 140) (pc := 28) (zd_eq zk140 (by decide +kernel : decode cX7_dayOn 28 = .ok (.ifCond .le 149, 3))) (by decide)) <|
  zcons (a := (31, zi_al 0 32)) (zs_al_n (M := 140) (pc := 31) (zd_eq zk140 (by decide +kernel : decode cX7_dayOn 31 = .ok (.aload_n 0, 1)))) <|
  zcons (a := (32, zi_gr 7 0 35)) (zs_gr (M := 140) (pc := 32) (n := 0) (ci := 7) (k := 0) (C := RX7) (T := TX7) (N := 26) (zd_eq zk140 (by decide +kernel : decode cX7_dayOn 32 = .ok (.getfield 7, 3))) rfl (by decide) (by decide) zin_7 (zl_f zo140 zw_796)) <|
  zcons (a := (35, zi_il 1 36)) (zs_il_n (M := 140) (pc := 35) (zd_eq zk140 (by decide +kernel : decode cX7_dayOn 35 = .ok (.iload_n 1, 1)))) <|
  zcons (a := (36, zi_k (.int 5) 37)) (zs_iconst (M := 140) (pc := 36) (zd_eq zk140 (by decide +kernel : decode cX7_dayOn 36 = .ok (.iconst 5, 1))) (by decide)) <|
  zcons (a := (37, zi_bin (· + ·) 38)) (zs_iadd (M := 140) (pc := 37) (zd_eq zk140 (by decide +kernel : decode cX7_dayOn 37 = .ok (.iadd, 1)))) <| znil
theorem zS140_1 : ∀ q ∈ zm_c140_1, zm_Snd 140 q.1 q.2 :=
  zcons (a := (38, zi_il 4 40)) (zs_il_w (M := 140) (pc := 38) (zd_eq zk140 (by decide +kernel : decode cX7_dayOn 38 = .ok (.iload 4, 2)))) <|
  zcons (a := (40, zi_bin (· + ·) 41)) (zs_iadd (M := 140) (pc := 40) (zd_eq zk140 (by decide +kernel : decode cX7_dayOn 40 = .ok (.iadd, 1)))) <|
  zcons (a := (41, zi_dup2 42)) (zs_dup2 (M := 140) (pc := 41) (zd_eq zk140 (by decide +kernel : decode cX7_dayOn 41 = .ok (.dup2, 1)))) <|
  zcons (a := (42, zi_ald 0 43)) (zs_iald (M := 140) (pc := 42) (zd_eq zk140 (by decide +kernel : decode cX7_dayOn 42 = .ok (.iaload, 1)))) <|
  zcons (a := (43, zi_al 0 44)) (zs_al_n (M := 140) (pc := 43) (zd_eq zk140 (by decide +kernel : decode cX7_dayOn 43 = .ok (.aload_n 0, 1)))) <|
  zcons (a := (44, zi_il 1 45)) (zs_il_n (M := 140) (pc := 44) (zd_eq zk140 (by decide +kernel : decode cX7_dayOn 44 = .ok (.iload_n 1, 1)))) <|
  zcons (a := (45, zi_il 4 47)) (zs_il_w (M := 140) (pc := 45) (zd_eq zk140 (by decide +kernel : decode cX7_dayOn 45 = .ok (.iload 4, 2)))) <|
  zcons (a := (47, zi_il 2 48)) (zs_il_n (M := 140) (pc := 47) (zd_eq zk140 (by decide +kernel : decode cX7_dayOn 47 = .ok (.iload_n 2, 1)))) <|
  zcons (a := (48, zi_cv 138 3 7 51 1)) (zs_cv (M := 140) (pc := 48) (M' := 138) (k := 3) (kd := 1) (ci := 7) (q := (RX7, TX7, 26)) (zd_eq zk140 (by decide +kernel : decode cX7_dayOn 48 = .ok (.invokevirtual 121, 3))) zWd138 (zl_m zo140 zy138 zw_961) (zl_i zy138 zw_963) (zl_e zy138 zw_33) (by decide) rfl (by rw [zo138])) <|
  zcons (a := (51, zi_bin (· - ·) 52)) (zs_isub (M := 140) (pc := 51) (zd_eq zk140 (by decide +kernel : decode cX7_dayOn 51 = .ok (.isub, 1)))) <|
  zcons (a := (52, zi_ast 0 (fun x => x) 53)) (zs_iast (M := 140) (pc := 52) (zd_eq zk140 (by decide +kernel : decode cX7_dayOn 52 = .ok (.iastore, 1)))) <|
  zcons (a := (53, zi_al 0 54)) (zs_al_n (M := 140) (pc := 53) (zd_eq zk140 (by decide +kernel : decode cX7_dayOn 53 = .ok (.aload_n 0, 1)))) <|
  zcons (a := (54, zi_gr 7 0 57)) (zs_gr (M := 140) (pc := 54) (n := 0) (ci := 7) (k := 0) (C := RX7) (T := TX7) (N := 26) (zd_eq zk140 (by decide +kernel : decode cX7_dayOn 54 = .ok (.getfield 7, 3))) rfl (by decide) (by decide) zin_7 (zl_f zo140 zw_796)) <|
  zcons (a := (57, zi_il 1 58)) (zs_il_n (M := 140) (pc := 57) (zd_eq zk140 (by decide +kernel : decode cX7_dayOn 57 = .ok (.iload_n 1, 1)))) <|
  zcons (a := (58, zi_k (.int 10) 60)) (zs_bipush (M := 140) (pc := 58) (zd_eq zk140 (by decide +kernel : decode cX7_dayOn 58 = .ok (.bipush 10, 2))) (by decide)) <|
  zcons (a := (60, zi_bin (· + ·) 61)) (zs_iadd (M := 140) (pc := 60) (zd_eq zk140 (by decide +kernel : decode cX7_dayOn 60 = .ok (.iadd, 1)))) <|
  zcons (a := (61, zi_il 4 63)) (zs_il_w (M := 140) (pc := 61) (zd_eq zk140 (by decide +kernel : decode cX7_dayOn 61 = .ok (.iload 4, 2)))) <|
  zcons (a := (63, zi_bin (· + ·) 64)) (zs_iadd (M := 140) (pc := 63) (zd_eq zk140 (by decide +kernel : decode cX7_dayOn 63 = .ok (.iadd, 1)))) <|
  zcons (a := (64, zi_ald 0 65)) (zs_iald (M := 140) (pc := 64) (zd_eq zk140 (by decide +kernel : decode cX7_dayOn 64 = .ok (.iaload, 1)))) <|
  zcons (a := (65, zi_al 0 66)) (zs_al_n (M := 140) (pc := 65) (zd_eq zk140 (by decide +kernel : decode cX7_dayOn 65 = .ok (.aload_n 0, 1)))) <|
  zcons (a := (66, zi_il 1 67)) (zs_il_n (M := 140) (pc := 66) (zd_eq zk140 (by decide +kernel : decode cX7_dayOn 66 = .ok (.iload_n 1, 1)))) <|
  zcons (a := (67, zi_il 4 69)) (zs_il_w (M := 140) (pc := 67) (zd_eq zk140 (by decide +kernel : decode cX7_dayOn 67 = .ok (.iload 4, 2)))) <|
  zcons (a := (69, zi_il 3 70)) (zs_il_n (M := 140) (pc := 69) (zd_eq zk140 (by decide +kernel : decode cX7_dayOn 69 = .ok (.iload_n 3, 1)))) <|
  zcons (a := (70, zi_cv 139 3 7 73 1)) (zs_cv (M := 140) (pc := 70) (M' := 139) (k := 3) (kd := 1) (ci := 7) (q := (RX7, TX7, 26)) (zd_eq zk140 (by decide +kernel : decode cX7_dayOn 70 = .ok (.invokevirtual 125, 3))) zWd139 (zl_m zo140 zy139 zw_969) (zl_i zy139 zw_971) (zl_e zy139 zw_35) (by decide) rfl (by rw [zo139])) <| znil
theorem zS140_2 : ∀ q ∈ zm_c140_2, zm_Snd 140 q.1 q.2 :=
  zcons (a := (73, zi_bin (· + ·) 74)) (zs_iadd (M := 140) (pc := 73) (zd_eq zk140 (by decide +kernel : decode cX7_dayOn 73 = .ok (.iadd, 1)))) <|
  zcons (a := (74, zi_is 5 76)) (zs_is_w (M := 140) (pc := 74) (zd_eq zk140 (by decide +kernel : decode cX7_dayOn 74 = .ok (.istore 5, 2))) (by decide +kernel) (by decide +kernel)) <|
  zcons (a := (76, zi_il 5 78)) (zs_il_w (M := 140) (pc := 76) (zd_eq zk140 (by decide +kernel : decode cX7_dayOn 76 = .ok (.iload 5, 2)))) <|
  zcons (a := (78, zi_k (.int 20) 80)) (zs_bipush (M := 140) (pc := 78) (zd_eq zk140 (by decide +kernel : decode cX7_dayOn 78 = .ok (.bipush 20, 2))) (by decide)) <|
  zcons (a := (80, zi_b2 (fun x y => x ≤ y) 88 83)) (zs_icmple (M := 140) (pc := 80) (zd_eq zk140 (by decide +kernel : decode cX7_dayOn 80 = .ok (.if_icmp .le 8, 3))) (by decide)) <|
  zcons (a := (83, zi_k (.int 20) 85)) (zs_bipush (M := 140) (pc := 83) (zd_eq zk140 (by decide +kernel : decode cX7_dayOn 83 = .ok (.bipush 20, 2))) (by decide)) <|
  zcons (a := (85, zi_go 102)) (zs_goto (M := 140) (pc := 85) (zd_eq zk140 (by decide +kernel : decode cX7_dayOn 85 = .ok (.goto 17, 3))) (by decide)) <|
  zcons (a := (88, zi_il 5 90)) (zs_il_w (M := 140) (pc := 88) (zd_eq zk140 (by decide +kernel : decode cX7_dayOn 88 = .ok (.iload 5, 2)))) <|
  zcons (a := (90, zi_k (.int (-20)) 92)) (zs_bipush (M := 140) (pc := 90) (zd_eq zk140 (by decide +kernel : decode cX7_dayOn 90 = .ok (.bipush (-20), 2))) (by decide)) <|
  zcons (a := (92, zi_b2 (fun x y => y ≤ x) 100 95)) (zs_icmpge (M := 140) (pc := 92) (zd_eq zk140 (by decide +kernel : decode cX7_dayOn 92 = .ok (.if_icmp .ge 8, 3))) (by decide)) <|
  zcons (a := (95, zi_k (.int (-20)) 97)) (zs_bipush (M := 140) (pc := 95) (zd_eq zk140 (by decide +kernel : decode cX7_dayOn 95 = .ok (.bipush (-20), 2))) (by decide)) <|
  zcons (a := (97, zi_go 102)) (zs_goto (M := 140) (pc := 97) (zd_eq zk140 (by decide +kernel : decode cX7_dayOn 97 = .ok (.goto 5, 3))) (by decide)) <|
  zcons (a := (100, zi_il 5 102)) (zs_il_w (M := 140) (pc := 100) (zd_eq zk140 (by decide +kernel : decode cX7_dayOn 100 = .ok (.iload 5, 2)))) <|
  zcons (a := (102, zi_is 5 104)) (zs_is_w (M := 140) (pc := 102) (zd_eq zk140 (by decide +kernel : decode cX7_dayOn 102 = .ok (.istore 5, 2))) (by decide +kernel) (by decide +kernel)) <|
  zcons (a := (104, zi_al 0 105)) (zs_al_n (M := 140) (pc := 104) (zd_eq zk140 (by decide +kernel : decode cX7_dayOn 104 = .ok (.aload_n 0, 1)))) <|
  zcons (a := (105, zi_gr 7 0 108)) (zs_gr (M := 140) (pc := 105) (n := 0) (ci := 7) (k := 0) (C := RX7) (T := TX7) (N := 26) (zd_eq zk140 (by decide +kernel : decode cX7_dayOn 105 = .ok (.getfield 7, 3))) rfl (by decide) (by decide) zin_7 (zl_f zo140 zw_796)) <|
  zcons (a := (108, zi_il 1 109)) (zs_il_n (M := 140) (pc := 108) (zd_eq zk140 (by decide +kernel : decode cX7_dayOn 108 = .ok (.iload_n 1, 1)))) <|
  zcons (a := (109, zi_k (.int 10) 111)) (zs_bipush (M := 140) (pc := 109) (zd_eq zk140 (by decide +kernel : decode cX7_dayOn 109 = .ok (.bipush 10, 2))) (by decide)) <|
  zcons (a := (111, zi_bin (· + ·) 112)) (zs_iadd (M := 140) (pc := 111) (zd_eq zk140 (by decide +kernel : decode cX7_dayOn 111 = .ok (.iadd, 1)))) <|
  zcons (a := (112, zi_il 4 114)) (zs_il_w (M := 140) (pc := 112) (zd_eq zk140 (by decide +kernel : decode cX7_dayOn 112 = .ok (.iload 4, 2)))) <|
  zcons (a := (114, zi_bin (· + ·) 115)) (zs_iadd (M := 140) (pc := 114) (zd_eq zk140 (by decide +kernel : decode cX7_dayOn 114 = .ok (.iadd, 1)))) <|
  zcons (a := (115, zi_il 5 117)) (zs_il_w (M := 140) (pc := 115) (zd_eq zk140 (by decide +kernel : decode cX7_dayOn 115 = .ok (.iload 5, 2)))) <|
  zcons (a := (117, zi_ast 0 (fun x => x) 118)) (zs_iast (M := 140) (pc := 117) (zd_eq zk140 (by decide +kernel : decode cX7_dayOn 117 = .ok (.iastore, 1)))) <|
  zcons (a := (118, zi_al 0 119)) (zs_al_n (M := 140) (pc := 118) (zd_eq zk140 (by decide +kernel : decode cX7_dayOn 118 = .ok (.aload_n 0, 1)))) <| znil
theorem zS140_3 : ∀ q ∈ zm_c140_3, zm_Snd 140 q.1 q.2 :=
  zcons (a := (119, zi_gr 7 0 122)) (zs_gr (M := 140) (pc := 119) (n := 0) (ci := 7) (k := 0) (C := RX7) (T := TX7) (N := 26) (zd_eq zk140 (by decide +kernel : decode cX7_dayOn 119 = .ok (.getfield 7, 3))) rfl (by decide) (by decide) zin_7 (zl_f zo140 zw_796)) <|
  zcons (a := (122, zi_il 1 123)) (zs_il_n (M := 140) (pc := 122) (zd_eq zk140 (by decide +kernel : decode cX7_dayOn 122 = .ok (.iload_n 1, 1)))) <|
  zcons (a := (123, zi_k (.int 5) 124)) (zs_iconst (M := 140) (pc := 123) (zd_eq zk140 (by decide +kernel : decode cX7_dayOn 123 = .ok (.iconst 5, 1))) (by decide)) <|
  zcons (a := (124, zi_bin (· + ·) 125)) (zs_iadd (M := 140) (pc := 124) (zd_eq zk140 (by decide +kernel : decode cX7_dayOn 124 = .ok (.iadd, 1)))) <|
  zcons (a := (125, zi_il 4 127)) (zs_il_w (M := 140) (pc := 125) (zd_eq zk140 (by decide +kernel : decode cX7_dayOn 125 = .ok (.iload 4, 2)))) <|
  zcons (a := (127, zi_bin (· + ·) 128)) (zs_iadd (M := 140) (pc := 127) (zd_eq zk140 (by decide +kernel : decode cX7_dayOn 127 = .ok (.iadd, 1)))) <|
  zcons (a := (128, zi_il 5 130)) (zs_il_w (M := 140) (pc := 128) (zd_eq zk140 (by decide +kernel : decode cX7_dayOn 128 = .ok (.iload 5, 2)))) <|
  zcons (a := (130, zi_al 0 131)) (zs_al_n (M := 140) (pc := 130) (zd_eq zk140 (by decide +kernel : decode cX7_dayOn 130 = .ok (.aload_n 0, 1)))) <|
  zcons (a := (131, zi_gr 7 0 134)) (zs_gr (M := 140) (pc := 131) (n := 0) (ci := 7) (k := 0) (C := RX7) (T := TX7) (N := 26) (zd_eq zk140 (by decide +kernel : decode cX7_dayOn 131 = .ok (.getfield 7, 3))) rfl (by decide) (by decide) zin_7 (zl_f zo140 zw_796)) <|
  zcons (a := (134, zi_il 1 135)) (zs_il_n (M := 140) (pc := 134) (zd_eq zk140 (by decide +kernel : decode cX7_dayOn 134 = .ok (.iload_n 1, 1)))) <|
  zcons (a := (135, zi_k (.int 5) 136)) (zs_iconst (M := 140) (pc := 135) (zd_eq zk140 (by decide +kernel : decode cX7_dayOn 135 = .ok (.iconst 5, 1))) (by decide)) <|
  zcons (a := (136, zi_bin (· + ·) 137)) (zs_iadd (M := 140) (pc := 136) (zd_eq zk140 (by decide +kernel : decode cX7_dayOn 136 = .ok (.iadd, 1)))) <|
  zcons (a := (137, zi_il 4 139)) (zs_il_w (M := 140) (pc := 137) (zd_eq zk140 (by decide +kernel : decode cX7_dayOn 137 = .ok (.iload 4, 2)))) <|
  zcons (a := (139, zi_bin (· + ·) 140)) (zs_iadd (M := 140) (pc := 139) (zd_eq zk140 (by decide +kernel : decode cX7_dayOn 139 = .ok (.iadd, 1)))) <|
  zcons (a := (140, zi_ald 0 141)) (zs_iald (M := 140) (pc := 140) (zd_eq zk140 (by decide +kernel : decode cX7_dayOn 140 = .ok (.iaload, 1)))) <|
  zcons (a := (141, zi_b2 (fun x y => y < x) 161 144)) (zs_icmpgt (M := 140) (pc := 141) (zd_eq zk140 (by decide +kernel : decode cX7_dayOn 141 = .ok (.if_icmp .gt 20, 3))) (by decide)) <|
  zcons (a := (144, zi_il 5 146)) (zs_il_w (M := 140) (pc := 144) (zd_eq zk140 (by decide +kernel : decode cX7_dayOn 144 = .ok (.iload 5, 2)))) <|
  zcons (a := (146, zi_un (fun x => -x) 147)) (zs_ineg (M := 140) (pc := 146) (zd_eq zk140 (by decide +kernel : decode cX7_dayOn 146 = .ok (.ineg, 1)))) <|
  zcons (a := (147, zi_al 0 148)) (zs_al_n (M := 140) (pc := 147) (zd_eq zk140 (by decide +kernel : decode cX7_dayOn 147 = .ok (.aload_n 0, 1)))) <|
  zcons (a := (148, zi_gr 7 0 151)) (zs_gr (M := 140) (pc := 148) (n := 0) (ci := 7) (k := 0) (C := RX7) (T := TX7) (N := 26) (zd_eq zk140 (by decide +kernel : decode cX7_dayOn 148 = .ok (.getfield 7, 3))) rfl (by decide) (by decide) zin_7 (zl_f zo140 zw_796)) <|
  zcons (a := (151, zi_il 1 152)) (zs_il_n (M := 140) (pc := 151) (zd_eq zk140 (by decide +kernel : decode cX7_dayOn 151 = .ok (.iload_n 1, 1)))) <|
  zcons (a := (152, zi_k (.int 5) 153)) (zs_iconst (M := 140) (pc := 152) (zd_eq zk140 (by decide +kernel : decode cX7_dayOn 152 = .ok (.iconst 5, 1))) (by decide)) <|
  zcons (a := (153, zi_bin (· + ·) 154)) (zs_iadd (M := 140) (pc := 153) (zd_eq zk140 (by decide +kernel : decode cX7_dayOn 153 = .ok (.iadd, 1)))) <|
  zcons (a := (154, zi_il 4 156)) (zs_il_w (M := 140) (pc := 154) (zd_eq zk140 (by decide +kernel : decode cX7_dayOn 154 = .ok (.iload 4, 2)))) <| znil
theorem zS140_4 : ∀ q ∈ zm_c140_4, zm_Snd 140 q.1 q.2 :=
  zcons (a := (156, zi_bin (· + ·) 157)) (zs_iadd (M := 140) (pc := 156) (zd_eq zk140 (by decide +kernel : decode cX7_dayOn 156 = .ok (.iadd, 1)))) <|
  zcons (a := (157, zi_ald 0 158)) (zs_iald (M := 140) (pc := 157) (zd_eq zk140 (by decide +kernel : decode cX7_dayOn 157 = .ok (.iaload, 1)))) <|
  zcons (a := (158, zi_b2 (fun x y => x ≤ y) 165 161)) (zs_icmple (M := 140) (pc := 158) (zd_eq zk140 (by decide +kernel : decode cX7_dayOn 158 = .ok (.if_icmp .le 7, 3))) (by decide)) <|
  zcons (a := (161, zi_k (.int 0) 162)) (zs_iconst (M := 140) (pc := 161) (zd_eq zk140 (by decide +kernel : decode cX7_dayOn 161 = .ok (.iconst 0, 1))) (by decide)) <|
  zcons (a := (162, zi_go 176)) (zs_goto (M := 140) (pc := 162) (zd_eq zk140 (by decide +kernel : decode cX7_dayOn 162 = .ok (.goto 14, 3))) (by decide)) <|
  zcons (a := (165, zi_al 0 166)) (zs_al_n (M := 140) (pc := 165) (zd_eq zk140 (by decide +kernel : decode cX7_dayOn 165 = .ok (.aload_n 0, 1)))) <|
  zcons (a := (166, zi_gr 7 0 169)) (zs_gr (M := 140) (pc := 166) (n := 0) (ci := 7) (k := 0) (C := RX7) (T := TX7) (N := 26) (zd_eq zk140 (by decide +kernel : decode cX7_dayOn 166 = .ok (.getfield 7, 3))) rfl (by decide) (by decide) zin_7 (zl_f zo140 zw_796)) <|
  zcons (a := (169, zi_il 1 170)) (zs_il_n (M := 140) (pc := 169) (zd_eq zk140 (by decide +kernel : decode cX7_dayOn 169 = .ok (.iload_n 1, 1)))) <|
  zcons (a := (170, zi_k (.int 5) 171)) (zs_iconst (M := 140) (pc := 170) (zd_eq zk140 (by decide +kernel : decode cX7_dayOn 170 = .ok (.iconst 5, 1))) (by decide)) <|
  zcons (a := (171, zi_bin (· + ·) 172)) (zs_iadd (M := 140) (pc := 171) (zd_eq zk140 (by decide +kernel : decode cX7_dayOn 171 = .ok (.iadd, 1)))) <|
  zcons (a := (172, zi_il 4 174)) (zs_il_w (M := 140) (pc := 172) (zd_eq zk140 (by decide +kernel : decode cX7_dayOn 172 = .ok (.iload 4, 2)))) <|
  zcons (a := (174, zi_bin (· + ·) 175)) (zs_iadd (M := 140) (pc := 174) (zd_eq zk140 (by decide +kernel : decode cX7_dayOn 174 = .ok (.iadd, 1)))) <|
  zcons (a := (175, zi_ald 0 176)) (zs_iald (M := 140) (pc := 175) (zd_eq zk140 (by decide +kernel : decode cX7_dayOn 175 = .ok (.iaload, 1)))) <|
  zcons (a := (176, zi_ast 0 (fun x => x) 177)) (zs_iast (M := 140) (pc := 176) (zd_eq zk140 (by decide +kernel : decode cX7_dayOn 176 = .ok (.iastore, 1)))) <|
  zcons (a := (177, zi_inc 4 1 180)) (zs_inc (M := 140) (pc := 177) (zd_eq zk140 (by decide +kernel : decode cX7_dayOn 177 = .ok (.iinc 4 1, 3))) (by decide) (by decide +kernel) (by decide +kernel)) <|
  zcons (a := (180, zi_go 3)) (zs_goto (M := 140) (pc := 180) (zd_eq zk140 (by decide +kernel : decode cX7_dayOn 180 = .ok (.goto (-177), 3))) (by decide)) <|
  zcons (a := (183, zi_al 0 184)) (zs_al_n (M := 140) (pc := 183) (zd_eq zk140 (by decide +kernel : decode cX7_dayOn 183 = .ok (.aload_n 0, 1)))) <|
  zcons (a := (184, zi_gr 7 0 187)) (zs_gr (M := 140) (pc := 184) (n := 0) (ci := 7) (k := 0) (C := RX7) (T := TX7) (N := 26) (zd_eq zk140 (by decide +kernel : decode cX7_dayOn 184 = .ok (.getfield 7, 3))) rfl (by decide) (by decide) zin_7 (zl_f zo140 zw_796)) <|
  zcons (a := (187, zi_il 1 188)) (zs_il_n (M := 140) (pc := 187) (zd_eq zk140 (by decide +kernel : decode cX7_dayOn 187 = .ok (.iload_n 1, 1)))) <|
  zcons (a := (188, zi_k (.int 30) 190)) (zs_bipush (M := 140) (pc := 188) (zd_eq zk140 (by decide +kernel : decode cX7_dayOn 188 = .ok (.bipush 30, 2))) (by decide)) <|
  zcons (a := (190, zi_bin (· + ·) 191)) (zs_iadd (M := 140) (pc := 190) (zd_eq zk140 (by decide +kernel : decode cX7_dayOn 190 = .ok (.iadd, 1)))) <|
  zcons (a := (191, zi_dup2 192)) (zs_dup2 (M := 140) (pc := 191) (zd_eq zk140 (by decide +kernel : decode cX7_dayOn 191 = .ok (.dup2, 1)))) <|
  zcons (a := (192, zi_ald 0 193)) (zs_iald (M := 140) (pc := 192) (zd_eq zk140 (by decide +kernel : decode cX7_dayOn 192 = .ok (.iaload, 1)))) <|
  zcons (a := (193, zi_k (.int 1) 194)) (zs_iconst (M := 140) (pc := 193) (zd_eq zk140 (by decide +kernel : decode cX7_dayOn 193 = .ok (.iconst 1, 1))) (by decide)) <| znil
theorem zS140_5 : ∀ q ∈ zm_c140_5, zm_Snd 140 q.1 q.2 :=
  zcons (a := (194, zi_bin (· + ·) 195)) (zs_iadd (M := 140) (pc := 194) (zd_eq zk140 (by decide +kernel : decode cX7_dayOn 194 = .ok (.iadd, 1)))) <|
  zcons (a := (195, zi_ast 0 (fun x => x) 196)) (zs_iast (M := 140) (pc := 195) (zd_eq zk140 (by decide +kernel : decode cX7_dayOn 195 = .ok (.iastore, 1)))) <|
  zcons (a := (196, zi_rv)) (zs_rv (M := 140) (pc := 196) (zd_eq zk140 (by decide +kernel : decode cX7_dayOn 196 = .ok (.return_, 1))) rfl) <| znil
theorem zS140 : ∀ pc, zm_Snd 140 pc (zm_lk2 zm_c140 pc) := zlk2 (zcons2 zS140_0 (zcons2 zS140_1 (zcons2 zS140_2 (zcons2 zS140_3 (zcons2 zS140_4 (zcons2 zS140_5 (znil2)))))))
theorem zS141_0 : ∀ q ∈ zm_c141_0, zm_Snd 141 q.1 q.2 :=
  zcons (a := (0, zi_al 0 1)) (zs_al_n (M := 141) (pc := 0) (zd_eq zk141 (by decide +kernel : decode cX7_goesOn 0 = .ok (.aload_n 0, 1)))) <|
  zcons (a := (1, zi_il 1 2)) (zs_il_n (M := 141) (pc := 1) (zd_eq zk141 (by decide +kernel : decode cX7_goesOn 1 = .ok (.iload_n 1, 1)))) <|
  zcons (a := (2, zi_al 0 3)) (zs_al_n (M := 141) (pc := 2) (zd_eq zk141 (by decide +kernel : decode cX7_goesOn 2 = .ok (.aload_n 0, 1)))) <|
  zcons (a := (3, zi_il 1 4)) (zs_il_n (M := 141) (pc := 3) (zd_eq zk141 (by decide +kernel : decode cX7_goesOn 3 = .ok (.iload_n 1, 1)))) <|
  zcons (a := (4, zi_cv 136 1 7 7 1)) (zs_cv (M := 141) (pc := 4) (M' := 136) (k := 1) (kd := 1) (ci := 7) (q := (RX7, TX7, 26)) (zd_eq zk141 (by decide +kernel : decode cX7_goesOn 4 = .ok (.invokevirtual 128, 3))) zWd136 (zl_m zo141 zy136 zw_957) (zl_i zy136 zw_959) (zl_e zy136 zw_32) (by decide) rfl (by rw [zo136])) <|
  zcons (a := (7, zi_al 0 8)) (zs_al_n (M := 141) (pc := 7) (zd_eq zk141 (by decide +kernel : decode cX7_goesOn 7 = .ok (.aload_n 0, 1)))) <|
  zcons (a := (8, zi_il 1 9)) (zs_il_n (M := 141) (pc := 8) (zd_eq zk141 (by decide +kernel : decode cX7_goesOn 8 = .ok (.iload_n 1, 1)))) <|
  zcons (a := (9, zi_cv 137 1 7 12 1)) (zs_cv (M := 141) (pc := 9) (M' := 137) (k := 1) (kd := 1) (ci := 7) (q := (RX7, TX7, 26)) (zd_eq zk141 (by decide +kernel : decode cX7_goesOn 9 = .ok (.invokevirtual 131, 3))) zWd137 (zl_m zo141 zy137 zw_965) (zl_i zy137 zw_967) (zl_e zy137 zw_34) (by decide) rfl (by rw [zo137])) <|
  zcons (a := (12, zi_cv 140 3 7 15 0)) (zs_cv (M := 141) (pc := 12) (M' := 140) (k := 3) (kd := 0) (ci := 7) (q := (RX7, TX7, 26)) (zd_eq zk141 (by decide +kernel : decode cX7_goesOn 12 = .ok (.invokevirtual 134, 3))) zWd140 (zl_m zo141 zy140 zw_1027) (zl_i zy140 zw_1029) (zl_e zy140 zw_40) (by decide) rfl (by rw [zo140])) <|
  zcons (a := (15, zi_rv)) (zs_rv (M := 141) (pc := 15) (zd_eq zk141 (by decide +kernel : decode cX7_goesOn 15 = .ok (.return_, 1))) rfl) <| znil
theorem zS141 : ∀ pc, zm_Snd 141 pc (zm_lk2 zm_c141 pc) := zlk2 (zcons2 zS141_0 (znil2))
theorem zS142_0 : ∀ q ∈ zm_c142_0, zm_Snd 142 q.1 q.2 :=
  zcons (a := (0, zi_k (.int 0) 1)) (zs_iconst (M := 142) (pc := 0) (zd_eq zk142 (by decide +kernel : decode cX7_standOn 0 = .ok (.iconst 0, 1))) (by decide)) <|
  zcons (a := (1, zi_is 2 2)) (zs_is_n (M := 142) (pc := 1) (zd_eq zk142 (by decide +kernel : decode cX7_standOn 1 = .ok (.istore_n 2, 1))) (by decide +kernel) (by decide +kernel)) <|
  zcons (a := (2, zi_k (.int 0) 3)) (zs_iconst (M := 142) (pc := 2) (zd_eq zk142 (by decide +kernel : decode cX7_standOn 2 = .ok (.iconst 0, 1))) (by decide)) <|
  zcons (a := (3, zi_is 3 4)) (zs_is_n (M := 142) (pc := 3) (zd_eq zk142 (by decide +kernel : decode cX7_standOn 3 = .ok (.istore_n 3, 1))) (by decide +kernel) (by decide +kernel)) <|
  zcons (a := (4, zi_il 3 5)) (zs_il_n (M := 142) (pc := 4) (zd_eq zk142 (by decide +kernel : decode cX7_standOn 4 = .ok (.iload_n 3, 1)))) <|
  zcons (a := (5, zi_al 0 6)) (zs_al_n (M := 142) (pc := 5) (zd_eq zk142 (by decide +kernel : decode cX7_standOn 5 = .ok (.aload_n 0, 1)))) <|
  zcons (a := (6, zi_gr 7 0 9)) (zs_gr (M := 142) (pc := 6) (n := 0) (ci := 7) (k := 0) (C := RX7) (T := TX7) (N := 26) (zd_eq zk142 (by decide +kernel : decode cX7_standOn 6 = .ok (.getfield 7, 3))) rfl (by decide) (by decide) zin_7 (zl_f zo142 zw_796)) <|
  zcons (a := (9, zi_il 1 10)) (zs_il_n (M := 142) (pc := 9) (zd_eq zk142 (by decide +kernel : decode cX7_standOn 9 = .ok (.iload_n 1, 1)))) <|
  zcons (a := (10, zi_k (.int 15) 12)) (zs_bipush (M := 142) (pc := 10) (zd_eq zk142 (by decide +kernel : decode cX7_standOn 10 = .ok (.bipush 15, 2))) (by decide)) <|
  zcons (a := (12, zi_bin (· + ·) 13)) (zs_iadd (M := 142) (pc := 12) (zd_eq zk142 (by decide +kernel : decode cX7_standOn 12 = .ok (.iadd, 1)))) <|
  zcons (a := (13, zi_ald 0 14)) (zs_iald (M := 142) (pc := 13) (zd_eq zk142 (by decide +kernel : decode cX7_standOn 13 = .ok (.iaload, 1)))) <|
  zcons (a := (14, zi_b2 (fun x y => y ≤ x) 46 17)) (zs_icmpge (M := 142) (pc := 14) (zd_eq zk142 (by decide +kernel : decode cX7_standOn 14 = .ok (.if_icmp .ge 32, 3))) (by decide)) <|
  zcons (a := (17, zi_il 2 18)) (zs_il_n (M := 142) (pc := 17) (zd_eq zk142 (by decide +kernel : decode cX7_standOn 17 = .ok (.iload_n 2, 1)))) <|
  zcons (a := (18, zi_al 0 19)) (zs_al_n (M := 142) (pc := 18) (zd_eq zk142 (by decide +kernel : decode cX7_standOn 18 = .ok (.aload_n 0, 1)))) <|
  zcons (a := (19, zi_gr 7 0 22)) (zs_gr (M := 142) (pc := 19) (n := 0) (ci := 7) (k := 0) (C := RX7) (T := TX7) (N := 26) (zd_eq zk142 (by decide +kernel : decode cX7_standOn 19 = .ok (.getfield 7, 3))) rfl (by decide) (by decide) zin_7 (zl_f zo142 zw_796)) <|
  zcons (a := (22, zi_il 1 23)) (zs_il_n (M := 142) (pc := 22) (zd_eq zk142 (by decide +kernel : decode cX7_standOn 22 = .ok (.iload_n 1, 1)))) <|
  zcons (a := (23, zi_k (.int 5) 24)) (zs_iconst (M := 142) (pc := 23) (zd_eq zk142 (by decide +kernel : decode cX7_standOn 23 = .ok (.iconst 5, 1))) (by decide)) <|
  zcons (a := (24, zi_bin (· + ·) 25)) (zs_iadd (M := 142) (pc := 24) (zd_eq zk142 (by decide +kernel : decode cX7_standOn 24 = .ok (.iadd, 1)))) <|
  zcons (a := (25, zi_il 3 26)) (zs_il_n (M := 142) (pc := 25) (zd_eq zk142 (by decide +kernel : decode cX7_standOn 25 = .ok (.iload_n 3, 1)))) <|
  zcons (a := (26, zi_bin (· + ·) 27)) (zs_iadd (M := 142) (pc := 26) (zd_eq zk142 (by decide +kernel : decode cX7_standOn 26 = .ok (.iadd, 1)))) <|
  zcons (a := (27, zi_ald 0 28)) (zs_iald (M := 142) (pc := 27) (zd_eq zk142 (by decide +kernel : decode cX7_standOn 27 = .ok (.iaload, 1)))) <|
  zcons (a := (28, zi_b1 (fun x => x ≤ 0) 37 31)) (zs_ifle (M := 142) (pc := 28) (zd_eq zk142 (by decide +kernel : decode cX7_standOn 28 = .ok (.ifCond .le 9, 3))) (by decide)) <|
  zcons (a := (31, zi_k (.int 1) 32)) (zs_iconst (M := 142) (pc := 31) (zd_eq zk142 (by decide +kernel : decode cX7_standOn 31 = .ok (.iconst 1, 1))) (by decide)) <|
  zcons (a := (32, zi_il 3 33)) (zs_il_n (M := 142) (pc := 32) (zd_eq zk142 (by decide +kernel : decode cX7_standOn 32 = .ok (.iload_n 3, 1)))) <| znil
theorem zS142_1 : ∀ q ∈ zm_c142_1, zm_Snd 142 q.1 q.2 :=
  zcons (a := (33, zi_bin (fun x y => x <<< (y &&& 31)) 34)) (zs_ishl (M := 142) (pc := 33) (zd_eq zk142 (by decide +kernel : decode cX7_standOn 33 = .ok (.ishl, 1)))) <|
  zcons (a := (34, zi_go 38)) (zs_goto (M := 142) (pc := 34) (zd_eq zk142 (by decide +kernel : decode cX7_standOn 34 = .ok (.goto 4, 3))) (by decide)) <|
  zcons (a := (37, zi_k (.int 0) 38)) (zs_iconst (M := 142) (pc := 37) (zd_eq zk142 (by decide +kernel : decode cX7_standOn 37 = .ok (.iconst 0, 1))) (by decide)) <|
  zcons (a := (38, zi_bin (· ||| ·) 39)) (zs_ior (M := 142) (pc := 38) (zd_eq zk142 (by decide +kernel : decode cX7_standOn 38 = .ok (.ior, 1)))) <|
  zcons (a := (39, zi_is 2 40)) (zs_is_n (M := 142) (pc := 39) (zd_eq zk142 (by decide +kernel : decode cX7_standOn 39 = .ok (.istore_n 2, 1))) (by decide +kernel) (by decide +kernel)) <|
  zcons (a := (40, zi_inc 3 1 43)) (zs_inc (M := 142) (pc := 40) (zd_eq zk142 (by decide +kernel : decode cX7_standOn 40 = .ok (.iinc 3 1, 3))) (by decide) (by decide +kernel) (by decide +kernel)) <|
  zcons (a := (43, zi_go 4)) (zs_goto (M := 142) (pc := 43) (zd_eq zk142 (by decide +kernel : decode cX7_standOn 43 = .ok (.goto (-39), 3))) (by decide)) <|
  zcons (a := (46, zi_il 2 47)) (zs_il_n (M := 142) (pc := 46) (zd_eq zk142 (by decide +kernel : decode cX7_standOn 46 = .ok (.iload_n 2, 1)))) <|
  zcons (a := (47, zi_ri)) (zs_ri (M := 142) (pc := 47) (zd_eq zk142 (by decide +kernel : decode cX7_standOn 47 = .ok (.ireturn, 1))) rfl) <| znil
theorem zS142 : ∀ pc, zm_Snd 142 pc (zm_lk2 zm_c142 pc) := zlk2 (zcons2 zS142_0 (zcons2 zS142_1 (znil2)))
theorem zS143_0 : ∀ q ∈ zm_c143_0, zm_Snd 143 q.1 q.2 :=
  zcons (a := (0, zi_k (.int 0) 1)) (zs_iconst (M := 143) (pc := 0) (zd_eq zk143 (by decide +kernel : decode cX7_reignsOn 0 = .ok (.iconst 0, 1))) (by decide)) <|
  zcons (a := (1, zi_is 2 2)) (zs_is_n (M := 143) (pc := 1) (zd_eq zk143 (by decide +kernel : decode cX7_reignsOn 1 = .ok (.istore_n 2, 1))) (by decide +kernel) (by decide +kernel)) <|
  zcons (a := (2, zi_il 2 3)) (zs_il_n (M := 143) (pc := 2) (zd_eq zk143 (by decide +kernel : decode cX7_reignsOn 2 = .ok (.iload_n 2, 1)))) <|
  zcons (a := (3, zi_al 0 4)) (zs_al_n (M := 143) (pc := 3) (zd_eq zk143 (by decide +kernel : decode cX7_reignsOn 3 = .ok (.aload_n 0, 1)))) <|
  zcons (a := (4, zi_gr 7 0 7)) (zs_gr (M := 143) (pc := 4) (n := 0) (ci := 7) (k := 0) (C := RX7) (T := TX7) (N := 26) (zd_eq zk143 (by decide +kernel : decode cX7_reignsOn 4 = .ok (.getfield 7, 3))) rfl (by decide) (by decide) zin_7 (zl_f zo143 zw_796)) <|
  zcons (a := (7, zi_il 1 8)) (zs_il_n (M := 143) (pc := 7) (zd_eq zk143 (by decide +kernel : decode cX7_reignsOn 7 = .ok (.iload_n 1, 1)))) <|
  zcons (a := (8, zi_k (.int 15) 10)) (zs_bipush (M := 143) (pc := 8) (zd_eq zk143 (by decide +kernel : decode cX7_reignsOn 8 = .ok (.bipush 15, 2))) (by decide)) <|
  zcons (a := (10, zi_bin (· + ·) 11)) (zs_iadd (M := 143) (pc := 10) (zd_eq zk143 (by decide +kernel : decode cX7_reignsOn 10 = .ok (.iadd, 1)))) <|
  zcons (a := (11, zi_ald 0 12)) (zs_iald (M := 143) (pc := 11) (zd_eq zk143 (by decide +kernel : decode cX7_reignsOn 11 = .ok (.iaload, 1)))) <|
  zcons (a := (12, zi_b2 (fun x y => y ≤ x) 36 15)) (zs_icmpge (M := 143) (pc := 12) (zd_eq zk143 (by decide +kernel : decode cX7_reignsOn 12 = .ok (.if_icmp .ge 24, 3))) (by decide)) <|
  zcons (a := (15, zi_al 0 16)) (zs_al_n (M := 143) (pc := 15) (zd_eq zk143 (by decide +kernel : decode cX7_reignsOn 15 = .ok (.aload_n 0, 1)))) <|
  zcons (a := (16, zi_gr 7 0 19)) (zs_gr (M := 143) (pc := 16) (n := 0) (ci := 7) (k := 0) (C := RX7) (T := TX7) (N := 26) (zd_eq zk143 (by decide +kernel : decode cX7_reignsOn 16 = .ok (.getfield 7, 3))) rfl (by decide) (by decide) zin_7 (zl_f zo143 zw_796)) <|
  zcons (a := (19, zi_il 1 20)) (zs_il_n (M := 143) (pc := 19) (zd_eq zk143 (by decide +kernel : decode cX7_reignsOn 19 = .ok (.iload_n 1, 1)))) <|
  zcons (a := (20, zi_k (.int 5) 21)) (zs_iconst (M := 143) (pc := 20) (zd_eq zk143 (by decide +kernel : decode cX7_reignsOn 20 = .ok (.iconst 5, 1))) (by decide)) <|
  zcons (a := (21, zi_bin (· + ·) 22)) (zs_iadd (M := 143) (pc := 21) (zd_eq zk143 (by decide +kernel : decode cX7_reignsOn 21 = .ok (.iadd, 1)))) <|
  zcons (a := (22, zi_il 2 23)) (zs_il_n (M := 143) (pc := 22) (zd_eq zk143 (by decide +kernel : decode cX7_reignsOn 22 = .ok (.iload_n 2, 1)))) <|
  zcons (a := (23, zi_bin (· + ·) 24)) (zs_iadd (M := 143) (pc := 23) (zd_eq zk143 (by decide +kernel : decode cX7_reignsOn 23 = .ok (.iadd, 1)))) <|
  zcons (a := (24, zi_ald 0 25)) (zs_iald (M := 143) (pc := 24) (zd_eq zk143 (by decide +kernel : decode cX7_reignsOn 24 = .ok (.iaload, 1)))) <|
  zcons (a := (25, zi_b1 (fun x => x ≤ 0) 30 28)) (zs_ifle (M := 143) (pc := 25) (zd_eq zk143 (by decide +kernel : decode cX7_reignsOn 25 = .ok (.ifCond .le 5, 3))) (by decide)) <|
  zcons (a := (28, zi_il 2 29)) (zs_il_n (M := 143) (pc := 28) (zd_eq zk143 (by decide +kernel : decode cX7_reignsOn 28 = .ok (.iload_n 2, 1)))) <|
  zcons (a := (29, zi_ri)) (zs_ri (M := 143) (pc := 29) (zd_eq zk143 (by decide +kernel : decode cX7_reignsOn 29 = .ok (.ireturn, 1))) rfl) <|
  zcons (a := (30, zi_inc 2 1 33)) (zs_inc (M := 143) (pc := 30) (zd_eq zk143 (by decide +kernel : decode cX7_reignsOn 30 = .ok (.iinc 2 1, 3))) (by decide) (by decide +kernel) (by decide +kernel)) <|
  zcons (a := (33, zi_go 2)) (zs_goto (M := 143) (pc := 33) (zd_eq zk143 (by decide +kernel : decode cX7_reignsOn 33 = .ok (.goto (-31), 3))) (by decide)) <|
  zcons (a := (36, zi_k (.int (-4)) 38)) (zs_bipush (M := 143) (pc := 36) (zd_eq zk143 (by decide +kernel : decode cX7_reignsOn 36 = .ok (.bipush (-4), 2))) (by decide)) <| znil
theorem zS143_1 : ∀ q ∈ zm_c143_1, zm_Snd 143 q.1 q.2 :=
  zcons (a := (38, zi_ri)) (zs_ri (M := 143) (pc := 38) (zd_eq zk143 (by decide +kernel : decode cX7_reignsOn 38 = .ok (.ireturn, 1))) rfl) <| znil
theorem zS143 : ∀ pc, zm_Snd 143 pc (zm_lk2 zm_c143 pc) := zlk2 (zcons2 zS143_0 (zcons2 zS143_1 (znil2)))
theorem zS144_0 : ∀ q ∈ zm_c144_0, zm_Snd 144 q.1 q.2 :=
  zcons (a := (0, zi_al 0 1)) (zs_al_n (M := 144) (pc := 0) (zd_eq zk144 (by decide +kernel : decode cX7_decreeOn 0 = .ok (.aload_n 0, 1)))) <|
  zcons (a := (1, zi_il 1 2)) (zs_il_n (M := 144) (pc := 1) (zd_eq zk144 (by decide +kernel : decode cX7_decreeOn 1 = .ok (.iload_n 1, 1)))) <|
  zcons (a := (2, zi_cv 143 1 7 5 1)) (zs_cv (M := 144) (pc := 2) (M' := 143) (k := 1) (kd := 1) (ci := 7) (q := (RX7, TX7, 26)) (zd_eq zk144 (by decide +kernel : decode cX7_decreeOn 2 = .ok (.invokevirtual 138, 3))) zWd143 (zl_m zo144 zy143 zw_933) (zl_i zy143 zw_935) (zl_e zy143 zw_27) (by decide) rfl (by rw [zo143])) <|
  zcons (a := (5, zi_is 2 6)) (zs_is_n (M := 144) (pc := 5) (zd_eq zk144 (by decide +kernel : decode cX7_decreeOn 5 = .ok (.istore_n 2, 1))) (by decide +kernel) (by decide +kernel)) <|
  zcons (a := (6, zi_il 2 7)) (zs_il_n (M := 144) (pc := 6) (zd_eq zk144 (by decide +kernel : decode cX7_decreeOn 6 = .ok (.iload_n 2, 1)))) <|
  zcons (a := (7, zi_k (.int (-4)) 9)) (zs_bipush (M := 144) (pc := 7) (zd_eq zk144 (by decide +kernel : decode cX7_decreeOn 7 = .ok (.bipush (-4), 2))) (by decide)) <|
  zcons (a := (9, zi_b2 (fun x y => ¬ x = y) 17 12)) (zs_icmpne (M := 144) (pc := 9) (zd_eq zk144 (by decide +kernel : decode cX7_decreeOn 9 = .ok (.if_icmp .ne 8, 3))) (by decide)) <|
  zcons (a := (12, zi_k (.int (-4)) 14)) (zs_bipush (M := 144) (pc := 12) (zd_eq zk144 (by decide +kernel : decode cX7_decreeOn 12 = .ok (.bipush (-4), 2))) (by decide)) <|
  zcons (a := (14, zi_go 33)) (zs_goto (M := 144) (pc := 14) (zd_eq zk144 (by decide +kernel : decode cX7_decreeOn 14 = .ok (.goto 19, 3))) (by decide)) <|
  zcons (a := (17, zi_al 0 18)) (zs_al_n (M := 144) (pc := 17) (zd_eq zk144 (by decide +kernel : decode cX7_decreeOn 17 = .ok (.aload_n 0, 1)))) <|
  zcons (a := (18, zi_gr 7 0 21)) (zs_gr (M := 144) (pc := 18) (n := 0) (ci := 7) (k := 0) (C := RX7) (T := TX7) (N := 26) (zd_eq zk144 (by decide +kernel : decode cX7_decreeOn 18 = .ok (.getfield 7, 3))) rfl (by decide) (by decide) zin_7 (zl_f zo144 zw_796)) <|
  zcons (a := (21, zi_il 1 22)) (zs_il_n (M := 144) (pc := 21) (zd_eq zk144 (by decide +kernel : decode cX7_decreeOn 21 = .ok (.iload_n 1, 1)))) <|
  zcons (a := (22, zi_k (.int 10) 24)) (zs_bipush (M := 144) (pc := 22) (zd_eq zk144 (by decide +kernel : decode cX7_decreeOn 22 = .ok (.bipush 10, 2))) (by decide)) <|
  zcons (a := (24, zi_bin (· + ·) 25)) (zs_iadd (M := 144) (pc := 24) (zd_eq zk144 (by decide +kernel : decode cX7_decreeOn 24 = .ok (.iadd, 1)))) <|
  zcons (a := (25, zi_il 2 26)) (zs_il_n (M := 144) (pc := 25) (zd_eq zk144 (by decide +kernel : decode cX7_decreeOn 25 = .ok (.iload_n 2, 1)))) <|
  zcons (a := (26, zi_bin (· + ·) 27)) (zs_iadd (M := 144) (pc := 26) (zd_eq zk144 (by decide +kernel : decode cX7_decreeOn 26 = .ok (.iadd, 1)))) <|
  zcons (a := (27, zi_ald 0 28)) (zs_iald (M := 144) (pc := 27) (zd_eq zk144 (by decide +kernel : decode cX7_decreeOn 27 = .ok (.iaload, 1)))) <|
  zcons (a := (28, zi_k (.int 20) 30)) (zs_bipush (M := 144) (pc := 28) (zd_eq zk144 (by decide +kernel : decode cX7_decreeOn 28 = .ok (.bipush 20, 2))) (by decide)) <|
  zcons (a := (30, zi_bin (· + ·) 31)) (zs_iadd (M := 144) (pc := 30) (zd_eq zk144 (by decide +kernel : decode cX7_decreeOn 30 = .ok (.iadd, 1)))) <|
  zcons (a := (31, zi_k (.int 4) 32)) (zs_iconst (M := 144) (pc := 31) (zd_eq zk144 (by decide +kernel : decode cX7_decreeOn 31 = .ok (.iconst 4, 1))) (by decide)) <|
  zcons (a := (32, zi_rem 33)) (zs_irem (M := 144) (pc := 32) (zd_eq zk144 (by decide +kernel : decode cX7_decreeOn 32 = .ok (.irem, 1)))) <|
  zcons (a := (33, zi_ri)) (zs_ri (M := 144) (pc := 33) (zd_eq zk144 (by decide +kernel : decode cX7_decreeOn 33 = .ok (.ireturn, 1))) rfl) <| znil
theorem zS144 : ∀ pc, zm_Snd 144 pc (zm_lk2 zm_c144 pc) := zlk2 (zcons2 zS144_0 (znil2))
theorem zS145_0 : ∀ q ∈ zm_c145_0, zm_Snd 145 q.1 q.2 :=
  zcons (a := (0, zi_k (.int 0) 1)) (zs_iconst (M := 145) (pc := 0) (zd_eq zk145 (by decide +kernel : decode cX7_sizeOn 0 = .ok (.iconst 0, 1))) (by decide)) <|
  zcons (a := (1, zi_is 2 2)) (zs_is_n (M := 145) (pc := 1) (zd_eq zk145 (by decide +kernel : decode cX7_sizeOn 1 = .ok (.istore_n 2, 1))) (by decide +kernel) (by decide +kernel)) <|
  zcons (a := (2, zi_k (.int 0) 3)) (zs_iconst (M := 145) (pc := 2) (zd_eq zk145 (by decide +kernel : decode cX7_sizeOn 2 = .ok (.iconst 0, 1))) (by decide)) <|
  zcons (a := (3, zi_is 3 4)) (zs_is_n (M := 145) (pc := 3) (zd_eq zk145 (by decide +kernel : decode cX7_sizeOn 3 = .ok (.istore_n 3, 1))) (by decide +kernel) (by decide +kernel)) <|
  zcons (a := (4, zi_il 3 5)) (zs_il_n (M := 145) (pc := 4) (zd_eq zk145 (by decide +kernel : decode cX7_sizeOn 4 = .ok (.iload_n 3, 1)))) <|
  zcons (a := (5, zi_al 0 6)) (zs_al_n (M := 145) (pc := 5) (zd_eq zk145 (by decide +kernel : decode cX7_sizeOn 5 = .ok (.aload_n 0, 1)))) <|
  zcons (a := (6, zi_gr 7 0 9)) (zs_gr (M := 145) (pc := 6) (n := 0) (ci := 7) (k := 0) (C := RX7) (T := TX7) (N := 26) (zd_eq zk145 (by decide +kernel : decode cX7_sizeOn 6 = .ok (.getfield 7, 3))) rfl (by decide) (by decide) zin_7 (zl_f zo145 zw_796)) <|
  zcons (a := (9, zi_il 1 10)) (zs_il_n (M := 145) (pc := 9) (zd_eq zk145 (by decide +kernel : decode cX7_sizeOn 9 = .ok (.iload_n 1, 1)))) <|
  zcons (a := (10, zi_k (.int 15) 12)) (zs_bipush (M := 145) (pc := 10) (zd_eq zk145 (by decide +kernel : decode cX7_sizeOn 10 = .ok (.bipush 15, 2))) (by decide)) <|
  zcons (a := (12, zi_bin (· + ·) 13)) (zs_iadd (M := 145) (pc := 12) (zd_eq zk145 (by decide +kernel : decode cX7_sizeOn 12 = .ok (.iadd, 1)))) <|
  zcons (a := (13, zi_ald 0 14)) (zs_iald (M := 145) (pc := 13) (zd_eq zk145 (by decide +kernel : decode cX7_sizeOn 13 = .ok (.iaload, 1)))) <|
  zcons (a := (14, zi_b2 (fun x y => y ≤ x) 36 17)) (zs_icmpge (M := 145) (pc := 14) (zd_eq zk145 (by decide +kernel : decode cX7_sizeOn 14 = .ok (.if_icmp .ge 22, 3))) (by decide)) <|
  zcons (a := (17, zi_il 2 18)) (zs_il_n (M := 145) (pc := 17) (zd_eq zk145 (by decide +kernel : decode cX7_sizeOn 17 = .ok (.iload_n 2, 1)))) <|
  zcons (a := (18, zi_al 0 19)) (zs_al_n (M := 145) (pc := 18) (zd_eq zk145 (by decide +kernel : decode cX7_sizeOn 18 = .ok (.aload_n 0, 1)))) <|
  zcons (a := (19, zi_gr 7 0 22)) (zs_gr (M := 145) (pc := 19) (n := 0) (ci := 7) (k := 0) (C := RX7) (T := TX7) (N := 26) (zd_eq zk145 (by decide +kernel : decode cX7_sizeOn 19 = .ok (.getfield 7, 3))) rfl (by decide) (by decide) zin_7 (zl_f zo145 zw_796)) <|
  zcons (a := (22, zi_il 1 23)) (zs_il_n (M := 145) (pc := 22) (zd_eq zk145 (by decide +kernel : decode cX7_sizeOn 22 = .ok (.iload_n 1, 1)))) <|
  zcons (a := (23, zi_k (.int 5) 24)) (zs_iconst (M := 145) (pc := 23) (zd_eq zk145 (by decide +kernel : decode cX7_sizeOn 23 = .ok (.iconst 5, 1))) (by decide)) <|
  zcons (a := (24, zi_bin (· + ·) 25)) (zs_iadd (M := 145) (pc := 24) (zd_eq zk145 (by decide +kernel : decode cX7_sizeOn 24 = .ok (.iadd, 1)))) <|
  zcons (a := (25, zi_il 3 26)) (zs_il_n (M := 145) (pc := 25) (zd_eq zk145 (by decide +kernel : decode cX7_sizeOn 25 = .ok (.iload_n 3, 1)))) <|
  zcons (a := (26, zi_bin (· + ·) 27)) (zs_iadd (M := 145) (pc := 26) (zd_eq zk145 (by decide +kernel : decode cX7_sizeOn 26 = .ok (.iadd, 1)))) <|
  zcons (a := (27, zi_ald 0 28)) (zs_iald (M := 145) (pc := 27) (zd_eq zk145 (by decide +kernel : decode cX7_sizeOn 27 = .ok (.iaload, 1)))) <|
  zcons (a := (28, zi_bin (· + ·) 29)) (zs_iadd (M := 145) (pc := 28) (zd_eq zk145 (by decide +kernel : decode cX7_sizeOn 28 = .ok (.iadd, 1)))) <|
  zcons (a := (29, zi_is 2 30)) (zs_is_n (M := 145) (pc := 29) (zd_eq zk145 (by decide +kernel : decode cX7_sizeOn 29 = .ok (.istore_n 2, 1))) (by decide +kernel) (by decide +kernel)) <|
  zcons (a := (30, zi_inc 3 1 33)) (zs_inc (M := 145) (pc := 30) (zd_eq zk145 (by decide +kernel : decode cX7_sizeOn 30 = .ok (.iinc 3 1, 3))) (by decide) (by decide +kernel) (by decide +kernel)) <| znil
theorem zS145_1 : ∀ q ∈ zm_c145_1, zm_Snd 145 q.1 q.2 :=
  zcons (a := (33, zi_go 4)) (zs_goto (M := 145) (pc := 33) (zd_eq zk145 (by decide +kernel : decode cX7_sizeOn 33 = .ok (.goto (-29), 3))) (by decide)) <|
  zcons (a := (36, zi_il 2 37)) (zs_il_n (M := 145) (pc := 36) (zd_eq zk145 (by decide +kernel : decode cX7_sizeOn 36 = .ok (.iload_n 2, 1)))) <|
  zcons (a := (37, zi_ri)) (zs_ri (M := 145) (pc := 37) (zd_eq zk145 (by decide +kernel : decode cX7_sizeOn 37 = .ok (.ireturn, 1))) rfl) <| znil
theorem zS145 : ∀ pc, zm_Snd 145 pc (zm_lk2 zm_c145 pc) := zlk2 (zcons2 zS145_0 (zcons2 zS145_1 (znil2)))
theorem zS146_0 : ∀ q ∈ zm_c146_0, zm_Snd 146 q.1 q.2 :=
  zcons (a := (0, zi_k (.int 0) 1)) (zs_iconst (M := 146) (pc := 0) (zd_eq zk146 (by decide +kernel : decode cX7_bitsOf 0 = .ok (.iconst 0, 1))) (by decide)) <|
  zcons (a := (1, zi_is 1 2)) (zs_is_n (M := 146) (pc := 1) (zd_eq zk146 (by decide +kernel : decode cX7_bitsOf 1 = .ok (.istore_n 1, 1))) (by decide +kernel) (by decide +kernel)) <|
  zcons (a := (2, zi_il 0 3)) (zs_il_n (M := 146) (pc := 2) (zd_eq zk146 (by decide +kernel : decode cX7_bitsOf 2 = .ok (.iload_n 0, 1)))) <|
  zcons (a := (3, zi_is 2 4)) (zs_is_n (M := 146) (pc := 3) (zd_eq zk146 (by decide +kernel : decode cX7_bitsOf 3 = .ok (.istore_n 2, 1))) (by decide +kernel) (by decide +kernel)) <|
  zcons (a := (4, zi_il 2 5)) (zs_il_n (M := 146) (pc := 4) (zd_eq zk146 (by decide +kernel : decode cX7_bitsOf 4 = .ok (.iload_n 2, 1)))) <|
  zcons (a := (5, zi_b1 (fun x => x ≤ 0) 21 8)) (zs_ifle (M := 146) (pc := 5) (zd_eq zk146 (by decide +kernel : decode cX7_bitsOf 5 = .ok (.ifCond .le 16, 3))) (by decide)) <|
  zcons (a := (8, zi_il 1 9)) (zs_il_n (M := 146) (pc := 8) (zd_eq zk146 (by decide +kernel : decode cX7_bitsOf 8 = .ok (.iload_n 1, 1)))) <|
  zcons (a := (9, zi_il 2 10)) (zs_il_n (M := 146) (pc := 9) (zd_eq zk146 (by decide +kernel : decode cX7_bitsOf 9 = .ok (.iload_n 2, 1)))) <|
  zcons (a := (10, zi_k (.int 1) 11)) (zs_iconst (M := 146) (pc := 10) (zd_eq zk146 (by decide +kernel : decode cX7_bitsOf 10 = .ok (.iconst 1, 1))) (by decide)) <|
  zcons (a := (11, zi_bin (· &&& ·) 12)) (zs_iand (M := 146) (pc := 11) (zd_eq zk146 (by decide +kernel : decode cX7_bitsOf 11 = .ok (.iand, 1)))) <|
  zcons (a := (12, zi_bin (· + ·) 13)) (zs_iadd (M := 146) (pc := 12) (zd_eq zk146 (by decide +kernel : decode cX7_bitsOf 12 = .ok (.iadd, 1)))) <|
  zcons (a := (13, zi_is 1 14)) (zs_is_n (M := 146) (pc := 13) (zd_eq zk146 (by decide +kernel : decode cX7_bitsOf 13 = .ok (.istore_n 1, 1))) (by decide +kernel) (by decide +kernel)) <|
  zcons (a := (14, zi_il 2 15)) (zs_il_n (M := 146) (pc := 14) (zd_eq zk146 (by decide +kernel : decode cX7_bitsOf 14 = .ok (.iload_n 2, 1)))) <|
  zcons (a := (15, zi_k (.int 1) 16)) (zs_iconst (M := 146) (pc := 15) (zd_eq zk146 (by decide +kernel : decode cX7_bitsOf 15 = .ok (.iconst 1, 1))) (by decide)) <|
  zcons (a := (16, zi_bin (fun x y => x >>> (y &&& 31)) 17)) (zs_ishr (M := 146) (pc := 16) (zd_eq zk146 (by decide +kernel : decode cX7_bitsOf 16 = .ok (.ishr, 1)))) <|
  zcons (a := (17, zi_is 2 18)) (zs_is_n (M := 146) (pc := 17) (zd_eq zk146 (by decide +kernel : decode cX7_bitsOf 17 = .ok (.istore_n 2, 1))) (by decide +kernel) (by decide +kernel)) <|
  zcons (a := (18, zi_go 4)) (zs_goto (M := 146) (pc := 18) (zd_eq zk146 (by decide +kernel : decode cX7_bitsOf 18 = .ok (.goto (-14), 3))) (by decide)) <|
  zcons (a := (21, zi_il 1 22)) (zs_il_n (M := 146) (pc := 21) (zd_eq zk146 (by decide +kernel : decode cX7_bitsOf 21 = .ok (.iload_n 1, 1)))) <|
  zcons (a := (22, zi_ri)) (zs_ri (M := 146) (pc := 22) (zd_eq zk146 (by decide +kernel : decode cX7_bitsOf 22 = .ok (.ireturn, 1))) rfl) <| znil
theorem zS146 : ∀ pc, zm_Snd 146 pc (zm_lk2 zm_c146 pc) := zlk2 (zcons2 zS146_0 (znil2))
theorem zS147_0 : ∀ q ∈ zm_c147_0, zm_Snd 147 q.1 q.2 :=
  zcons (a := (0, zi_il 1 1)) (zs_il_n (M := 147) (pc := 0) (zd_eq zk147 (by decide +kernel : decode cX7_rule 0 = .ok (.iload_n 1, 1)))) <|
  zcons (a := (1, zi_ts 0 5 [40, 48, 56, 62, 68, 74] 80)) (zs_ts (M := 147) (pc := 1) (zd_eq zk147 (by decide +kernel : decode cX7_rule 1 = .ok (.tableswitch 79 0 5 #[39, 47, 55, 61, 67, 73], 39))) (by decide) (zts_dec (by decide +kernel))) <|
  zcons (a := (40, zi_al 0 41)) (zs_al_n (M := 147) (pc := 40) (zd_eq zk147 (by decide +kernel : decode cX7_rule 40 = .ok (.aload_n 0, 1)))) <|
  zcons (a := (41, zi_gr 7 0 44)) (zs_gr (M := 147) (pc := 41) (n := 0) (ci := 7) (k := 0) (C := RX7) (T := TX7) (N := 26) (zd_eq zk147 (by decide +kernel : decode cX7_rule 41 = .ok (.getfield 7, 3))) rfl (by decide) (by decide) zin_7 (zl_f zo147 zw_796)) <|
  zcons (a := (44, zi_k (.int 15) 46)) (zs_bipush (M := 147) (pc := 44) (zd_eq zk147 (by decide +kernel : decode cX7_rule 44 = .ok (.bipush 15, 2))) (by decide)) <|
  zcons (a := (46, zi_ald 0 47)) (zs_iald (M := 147) (pc := 46) (zd_eq zk147 (by decide +kernel : decode cX7_rule 46 = .ok (.iaload, 1)))) <|
  zcons (a := (47, zi_ri)) (zs_ri (M := 147) (pc := 47) (zd_eq zk147 (by decide +kernel : decode cX7_rule 47 = .ok (.ireturn, 1))) rfl) <|
  zcons (a := (48, zi_al 0 49)) (zs_al_n (M := 147) (pc := 48) (zd_eq zk147 (by decide +kernel : decode cX7_rule 48 = .ok (.aload_n 0, 1)))) <|
  zcons (a := (49, zi_gr 7 0 52)) (zs_gr (M := 147) (pc := 49) (n := 0) (ci := 7) (k := 0) (C := RX7) (T := TX7) (N := 26) (zd_eq zk147 (by decide +kernel : decode cX7_rule 49 = .ok (.getfield 7, 3))) rfl (by decide) (by decide) zin_7 (zl_f zo147 zw_796)) <|
  zcons (a := (52, zi_k (.int 30) 54)) (zs_bipush (M := 147) (pc := 52) (zd_eq zk147 (by decide +kernel : decode cX7_rule 52 = .ok (.bipush 30, 2))) (by decide)) <|
  zcons (a := (54, zi_ald 0 55)) (zs_iald (M := 147) (pc := 54) (zd_eq zk147 (by decide +kernel : decode cX7_rule 54 = .ok (.iaload, 1)))) <|
  zcons (a := (55, zi_ri)) (zs_ri (M := 147) (pc := 55) (zd_eq zk147 (by decide +kernel : decode cX7_rule 55 = .ok (.ireturn, 1))) rfl) <|
  zcons (a := (56, zi_al 0 57)) (zs_al_n (M := 147) (pc := 56) (zd_eq zk147 (by decide +kernel : decode cX7_rule 56 = .ok (.aload_n 0, 1)))) <|
  zcons (a := (57, zi_k (.int 0) 58)) (zs_iconst (M := 147) (pc := 57) (zd_eq zk147 (by decide +kernel : decode cX7_rule 57 = .ok (.iconst 0, 1))) (by decide)) <|
  zcons (a := (58, zi_cv 143 1 7 61 1)) (zs_cv (M := 147) (pc := 58) (M' := 143) (k := 1) (kd := 1) (ci := 7) (q := (RX7, TX7, 26)) (zd_eq zk147 (by decide +kernel : decode cX7_rule 58 = .ok (.invokevirtual 138, 3))) zWd143 (zl_m zo147 zy143 zw_933) (zl_i zy143 zw_935) (zl_e zy143 zw_27) (by decide) rfl (by rw [zo143])) <|
  zcons (a := (61, zi_ri)) (zs_ri (M := 147) (pc := 61) (zd_eq zk147 (by decide +kernel : decode cX7_rule 61 = .ok (.ireturn, 1))) rfl) <|
  zcons (a := (62, zi_al 0 63)) (zs_al_n (M := 147) (pc := 62) (zd_eq zk147 (by decide +kernel : decode cX7_rule 62 = .ok (.aload_n 0, 1)))) <|
  zcons (a := (63, zi_k (.int 0) 64)) (zs_iconst (M := 147) (pc := 63) (zd_eq zk147 (by decide +kernel : decode cX7_rule 63 = .ok (.iconst 0, 1))) (by decide)) <|
  zcons (a := (64, zi_cv 144 1 7 67 1)) (zs_cv (M := 147) (pc := 64) (M' := 144) (k := 1) (kd := 1) (ci := 7) (q := (RX7, TX7, 26)) (zd_eq zk147 (by decide +kernel : decode cX7_rule 64 = .ok (.invokevirtual 141, 3))) zWd144 (zl_m zo147 zy144 zw_937) (zl_i zy144 zw_939) (zl_e zy144 zw_28) (by decide) rfl (by rw [zo144])) <|
  zcons (a := (67, zi_ri)) (zs_ri (M := 147) (pc := 67) (zd_eq zk147 (by decide +kernel : decode cX7_rule 67 = .ok (.ireturn, 1))) rfl) <|
  zcons (a := (68, zi_al 0 69)) (zs_al_n (M := 147) (pc := 68) (zd_eq zk147 (by decide +kernel : decode cX7_rule 68 = .ok (.aload_n 0, 1)))) <|
  zcons (a := (69, zi_k (.int 0) 70)) (zs_iconst (M := 147) (pc := 69) (zd_eq zk147 (by decide +kernel : decode cX7_rule 69 = .ok (.iconst 0, 1))) (by decide)) <|
  zcons (a := (70, zi_cv 142 1 7 73 1)) (zs_cv (M := 147) (pc := 70) (M' := 142) (k := 1) (kd := 1) (ci := 7) (q := (RX7, TX7, 26)) (zd_eq zk147 (by decide +kernel : decode cX7_rule 70 = .ok (.invokevirtual 144, 3))) zWd142 (zl_m zo147 zy142 zw_941) (zl_i zy142 zw_943) (zl_e zy142 zw_29) (by decide) rfl (by rw [zo142])) <|
  zcons (a := (73, zi_ri)) (zs_ri (M := 147) (pc := 73) (zd_eq zk147 (by decide +kernel : decode cX7_rule 73 = .ok (.ireturn, 1))) rfl) <| znil
theorem zS147_1 : ∀ q ∈ zm_c147_1, zm_Snd 147 q.1 q.2 :=
  zcons (a := (74, zi_al 0 75)) (zs_al_n (M := 147) (pc := 74) (zd_eq zk147 (by decide +kernel : decode cX7_rule 74 = .ok (.aload_n 0, 1)))) <|
  zcons (a := (75, zi_k (.int 0) 76)) (zs_iconst (M := 147) (pc := 75) (zd_eq zk147 (by decide +kernel : decode cX7_rule 75 = .ok (.iconst 0, 1))) (by decide)) <|
  zcons (a := (76, zi_cv 145 1 7 79 1)) (zs_cv (M := 147) (pc := 76) (M' := 145) (k := 1) (kd := 1) (ci := 7) (q := (RX7, TX7, 26)) (zd_eq zk147 (by decide +kernel : decode cX7_rule 76 = .ok (.invokevirtual 147, 3))) zWd145 (zl_m zo147 zy145 zw_945) (zl_i zy145 zw_947) (zl_e zy145 zw_30) (by decide) rfl (by rw [zo145])) <|
  zcons (a := (79, zi_ri)) (zs_ri (M := 147) (pc := 79) (zd_eq zk147 (by decide +kernel : decode cX7_rule 79 = .ok (.ireturn, 1))) rfl) <|
  zcons (a := (80, zi_k (.int (-1)) 81)) (zs_iconst (M := 147) (pc := 80) (zd_eq zk147 (by decide +kernel : decode cX7_rule 80 = .ok (.iconst (-1), 1))) (by decide)) <|
  zcons (a := (81, zi_ri)) (zs_ri (M := 147) (pc := 81) (zd_eq zk147 (by decide +kernel : decode cX7_rule 81 = .ok (.ireturn, 1))) rfl) <| znil
theorem zS147 : ∀ pc, zm_Snd 147 pc (zm_lk2 zm_c147 pc) := zlk2 (zcons2 zS147_0 (zcons2 zS147_1 (znil2)))
theorem zS148_0 : ∀ q ∈ zm_c148_0, zm_Snd 148 q.1 q.2 :=
  zcons (a := (0, zi_al 0 1)) (zs_al_n (M := 148) (pc := 0) (zd_eq zk148 (by decide +kernel : decode cX7_figure 0 = .ok (.aload_n 0, 1)))) <|
  zcons (a := (1, zi_il 1 2)) (zs_il_n (M := 148) (pc := 1) (zd_eq zk148 (by decide +kernel : decode cX7_figure 1 = .ok (.iload_n 1, 1)))) <|
  zcons (a := (2, zi_cv 135 1 7 5 1)) (zs_cv (M := 148) (pc := 2) (M' := 135) (k := 1) (kd := 1) (ci := 7) (q := (RX7, TX7, 26)) (zd_eq zk148 (by decide +kernel : decode cX7_figure 2 = .ok (.invokevirtual 150, 3))) zWd135 (zl_m zo148 zy135 zw_953) (zl_i zy135 zw_955) (zl_e zy135 zw_31) (by decide) rfl (by rw [zo135])) <|
  zcons (a := (5, zi_b1 (fun x => ¬ x = 0) 10 8)) (zs_ifne (M := 148) (pc := 5) (zd_eq zk148 (by decide +kernel : decode cX7_figure 5 = .ok (.ifCond .ne 5, 3))) (by decide)) <|
  zcons (a := (8, zi_k (.int (-1)) 9)) (zs_iconst (M := 148) (pc := 8) (zd_eq zk148 (by decide +kernel : decode cX7_figure 8 = .ok (.iconst (-1), 1))) (by decide)) <|
  zcons (a := (9, zi_ri)) (zs_ri (M := 148) (pc := 9) (zd_eq zk148 (by decide +kernel : decode cX7_figure 9 = .ok (.ireturn, 1))) rfl) <|
  zcons (a := (10, zi_il 2 11)) (zs_il_n (M := 148) (pc := 10) (zd_eq zk148 (by decide +kernel : decode cX7_figure 10 = .ok (.iload_n 2, 1)))) <|
  zcons (a := (11, zi_ts 0 4 [44, 51, 60, 73, 85] 100)) (zs_ts (M := 148) (pc := 11) (zd_eq zk148 (by decide +kernel : decode cX7_figure 11 = .ok (.tableswitch 89 0 4 #[33, 40, 49, 62, 74], 33))) (by decide) (zts_dec (by decide +kernel))) <|
  zcons (a := (44, zi_al 0 45)) (zs_al_n (M := 148) (pc := 44) (zd_eq zk148 (by decide +kernel : decode cX7_figure 44 = .ok (.aload_n 0, 1)))) <|
  zcons (a := (45, zi_gr 7 0 48)) (zs_gr (M := 148) (pc := 45) (n := 0) (ci := 7) (k := 0) (C := RX7) (T := TX7) (N := 26) (zd_eq zk148 (by decide +kernel : decode cX7_figure 45 = .ok (.getfield 7, 3))) rfl (by decide) (by decide) zin_7 (zl_f zo148 zw_796)) <|
  zcons (a := (48, zi_il 1 49)) (zs_il_n (M := 148) (pc := 48) (zd_eq zk148 (by decide +kernel : decode cX7_figure 48 = .ok (.iload_n 1, 1)))) <|
  zcons (a := (49, zi_ald 0 50)) (zs_iald (M := 148) (pc := 49) (zd_eq zk148 (by decide +kernel : decode cX7_figure 49 = .ok (.iaload, 1)))) <|
  zcons (a := (50, zi_ri)) (zs_ri (M := 148) (pc := 50) (zd_eq zk148 (by decide +kernel : decode cX7_figure 50 = .ok (.ireturn, 1))) rfl) <|
  zcons (a := (51, zi_al 0 52)) (zs_al_n (M := 148) (pc := 51) (zd_eq zk148 (by decide +kernel : decode cX7_figure 51 = .ok (.aload_n 0, 1)))) <|
  zcons (a := (52, zi_gr 7 0 55)) (zs_gr (M := 148) (pc := 52) (n := 0) (ci := 7) (k := 0) (C := RX7) (T := TX7) (N := 26) (zd_eq zk148 (by decide +kernel : decode cX7_figure 52 = .ok (.getfield 7, 3))) rfl (by decide) (by decide) zin_7 (zl_f zo148 zw_796)) <|
  zcons (a := (55, zi_k (.int 5) 56)) (zs_iconst (M := 148) (pc := 55) (zd_eq zk148 (by decide +kernel : decode cX7_figure 55 = .ok (.iconst 5, 1))) (by decide)) <|
  zcons (a := (56, zi_il 1 57)) (zs_il_n (M := 148) (pc := 56) (zd_eq zk148 (by decide +kernel : decode cX7_figure 56 = .ok (.iload_n 1, 1)))) <|
  zcons (a := (57, zi_bin (· + ·) 58)) (zs_iadd (M := 148) (pc := 57) (zd_eq zk148 (by decide +kernel : decode cX7_figure 57 = .ok (.iadd, 1)))) <|
  zcons (a := (58, zi_ald 0 59)) (zs_iald (M := 148) (pc := 58) (zd_eq zk148 (by decide +kernel : decode cX7_figure 58 = .ok (.iaload, 1)))) <|
  zcons (a := (59, zi_ri)) (zs_ri (M := 148) (pc := 59) (zd_eq zk148 (by decide +kernel : decode cX7_figure 59 = .ok (.ireturn, 1))) rfl) <|
  zcons (a := (60, zi_al 0 61)) (zs_al_n (M := 148) (pc := 60) (zd_eq zk148 (by decide +kernel : decode cX7_figure 60 = .ok (.aload_n 0, 1)))) <|
  zcons (a := (61, zi_gr 7 0 64)) (zs_gr (M := 148) (pc := 61) (n := 0) (ci := 7) (k := 0) (C := RX7) (T := TX7) (N := 26) (zd_eq zk148 (by decide +kernel : decode cX7_figure 61 = .ok (.getfield 7, 3))) rfl (by decide) (by decide) zin_7 (zl_f zo148 zw_796)) <|
  zcons (a := (64, zi_k (.int 10) 66)) (zs_bipush (M := 148) (pc := 64) (zd_eq zk148 (by decide +kernel : decode cX7_figure 64 = .ok (.bipush 10, 2))) (by decide)) <|
  zcons (a := (66, zi_il 1 67)) (zs_il_n (M := 148) (pc := 66) (zd_eq zk148 (by decide +kernel : decode cX7_figure 66 = .ok (.iload_n 1, 1)))) <| znil
theorem zS148_1 : ∀ q ∈ zm_c148_1, zm_Snd 148 q.1 q.2 :=
  zcons (a := (67, zi_bin (· + ·) 68)) (zs_iadd (M := 148) (pc := 67) (zd_eq zk148 (by decide +kernel : decode cX7_figure 67 = .ok (.iadd, 1)))) <|
  zcons (a := (68, zi_ald 0 69)) (zs_iald (M := 148) (pc := 68) (zd_eq zk148 (by decide +kernel : decode cX7_figure 68 = .ok (.iaload, 1)))) <|
  zcons (a := (69, zi_k (.int 20) 71)) (zs_bipush (M := 148) (pc := 69) (zd_eq zk148 (by decide +kernel : decode cX7_figure 69 = .ok (.bipush 20, 2))) (by decide)) <|
  zcons (a := (71, zi_bin (· + ·) 72)) (zs_iadd (M := 148) (pc := 71) (zd_eq zk148 (by decide +kernel : decode cX7_figure 71 = .ok (.iadd, 1)))) <|
  zcons (a := (72, zi_ri)) (zs_ri (M := 148) (pc := 72) (zd_eq zk148 (by decide +kernel : decode cX7_figure 72 = .ok (.ireturn, 1))) rfl) <|
  zcons (a := (73, zi_al 0 74)) (zs_al_n (M := 148) (pc := 73) (zd_eq zk148 (by decide +kernel : decode cX7_figure 73 = .ok (.aload_n 0, 1)))) <|
  zcons (a := (74, zi_k (.int 0) 75)) (zs_iconst (M := 148) (pc := 74) (zd_eq zk148 (by decide +kernel : decode cX7_figure 74 = .ok (.iconst 0, 1))) (by decide)) <|
  zcons (a := (75, zi_il 1 76)) (zs_il_n (M := 148) (pc := 75) (zd_eq zk148 (by decide +kernel : decode cX7_figure 75 = .ok (.iload_n 1, 1)))) <|
  zcons (a := (76, zi_al 0 77)) (zs_al_n (M := 148) (pc := 76) (zd_eq zk148 (by decide +kernel : decode cX7_figure 76 = .ok (.aload_n 0, 1)))) <|
  zcons (a := (77, zi_k (.int 0) 78)) (zs_iconst (M := 148) (pc := 77) (zd_eq zk148 (by decide +kernel : decode cX7_figure 77 = .ok (.iconst 0, 1))) (by decide)) <|
  zcons (a := (78, zi_cv 136 1 7 81 1)) (zs_cv (M := 148) (pc := 78) (M' := 136) (k := 1) (kd := 1) (ci := 7) (q := (RX7, TX7, 26)) (zd_eq zk148 (by decide +kernel : decode cX7_figure 78 = .ok (.invokevirtual 128, 3))) zWd136 (zl_m zo148 zy136 zw_957) (zl_i zy136 zw_959) (zl_e zy136 zw_32) (by decide) rfl (by rw [zo136])) <|
  zcons (a := (81, zi_cv 138 3 7 84 1)) (zs_cv (M := 148) (pc := 81) (M' := 138) (k := 3) (kd := 1) (ci := 7) (q := (RX7, TX7, 26)) (zd_eq zk148 (by decide +kernel : decode cX7_figure 81 = .ok (.invokevirtual 121, 3))) zWd138 (zl_m zo148 zy138 zw_961) (zl_i zy138 zw_963) (zl_e zy138 zw_33) (by decide) rfl (by rw [zo138])) <|
  zcons (a := (84, zi_ri)) (zs_ri (M := 148) (pc := 84) (zd_eq zk148 (by decide +kernel : decode cX7_figure 84 = .ok (.ireturn, 1))) rfl) <|
  zcons (a := (85, zi_k (.int 20) 87)) (zs_bipush (M := 148) (pc := 85) (zd_eq zk148 (by decide +kernel : decode cX7_figure 85 = .ok (.bipush 20, 2))) (by decide)) <|
  zcons (a := (87, zi_al 0 88)) (zs_al_n (M := 148) (pc := 87) (zd_eq zk148 (by decide +kernel : decode cX7_figure 87 = .ok (.aload_n 0, 1)))) <|
  zcons (a := (88, zi_k (.int 0) 89)) (zs_iconst (M := 148) (pc := 88) (zd_eq zk148 (by decide +kernel : decode cX7_figure 88 = .ok (.iconst 0, 1))) (by decide)) <|
  zcons (a := (89, zi_il 1 90)) (zs_il_n (M := 148) (pc := 89) (zd_eq zk148 (by decide +kernel : decode cX7_figure 89 = .ok (.iload_n 1, 1)))) <|
  zcons (a := (90, zi_al 0 91)) (zs_al_n (M := 148) (pc := 90) (zd_eq zk148 (by decide +kernel : decode cX7_figure 90 = .ok (.aload_n 0, 1)))) <|
  zcons (a := (91, zi_k (.int 0) 92)) (zs_iconst (M := 148) (pc := 91) (zd_eq zk148 (by decide +kernel : decode cX7_figure 91 = .ok (.iconst 0, 1))) (by decide)) <|
  zcons (a := (92, zi_cv 137 1 7 95 1)) (zs_cv (M := 148) (pc := 92) (M' := 137) (k := 1) (kd := 1) (ci := 7) (q := (RX7, TX7, 26)) (zd_eq zk148 (by decide +kernel : decode cX7_figure 92 = .ok (.invokevirtual 131, 3))) zWd137 (zl_m zo148 zy137 zw_965) (zl_i zy137 zw_967) (zl_e zy137 zw_34) (by decide) rfl (by rw [zo137])) <|
  zcons (a := (95, zi_cv 139 3 7 98 1)) (zs_cv (M := 148) (pc := 95) (M' := 139) (k := 3) (kd := 1) (ci := 7) (q := (RX7, TX7, 26)) (zd_eq zk148 (by decide +kernel : decode cX7_figure 95 = .ok (.invokevirtual 125, 3))) zWd139 (zl_m zo148 zy139 zw_969) (zl_i zy139 zw_971) (zl_e zy139 zw_35) (by decide) rfl (by rw [zo139])) <|
  zcons (a := (98, zi_bin (· + ·) 99)) (zs_iadd (M := 148) (pc := 98) (zd_eq zk148 (by decide +kernel : decode cX7_figure 98 = .ok (.iadd, 1)))) <|
  zcons (a := (99, zi_ri)) (zs_ri (M := 148) (pc := 99) (zd_eq zk148 (by decide +kernel : decode cX7_figure 99 = .ok (.ireturn, 1))) rfl) <|
  zcons (a := (100, zi_k (.int (-1)) 101)) (zs_iconst (M := 148) (pc := 100) (zd_eq zk148 (by decide +kernel : decode cX7_figure 100 = .ok (.iconst (-1), 1))) (by decide)) <| znil
theorem zS148_2 : ∀ q ∈ zm_c148_2, zm_Snd 148 q.1 q.2 :=
  zcons (a := (101, zi_ri)) (zs_ri (M := 148) (pc := 101) (zd_eq zk148 (by decide +kernel : decode cX7_figure 101 = .ok (.ireturn, 1))) rfl) <| znil
theorem zS148 : ∀ pc, zm_Snd 148 pc (zm_lk2 zm_c148 pc) := zlk2 (zcons2 zS148_0 (zcons2 zS148_1 (zcons2 zS148_2 (znil2))))
theorem zS149_0 : ∀ q ∈ zm_c149_0, zm_Snd 149 q.1 q.2 :=
  zcons (a := (0, zi_il 1 1)) (zs_il_n (M := 149) (pc := 0) (zd_eq zk149 (by decide +kernel : decode cX7_week 0 = .ok (.iload_n 1, 1)))) <|
  zcons (a := (1, zi_i2l 2)) (zs_i2l (M := 149) (pc := 1) (zd_eq zk149 (by decide +kernel : decode cX7_week 1 = .ok (.i2l, 1)))) <|
  zcons (a := (2, zi_k (.long 0) 3)) (zs_lconst (M := 149) (pc := 2) (zd_eq zk149 (by decide +kernel : decode cX7_week 2 = .ok (.lconst 0, 1))) (by decide)) <|
  zcons (a := (3, zi_k (.long 6) 6)) (zs_ldc2 (M := 149) (pc := 3) (zd_eq zk149 (by decide +kernel : decode cX7_week 3 = .ok (.ldc2_w 98, 3))) (zl_k2 zo149 zw_924)) <|
  zcons (a := (6, zi_cs 123 3 9 1)) (zs_cs (M := 149) (pc := 6) (M' := 123) (k := 3) (kd := 1) (zd_eq zk149 (by decide +kernel : decode cX7_week 6 = .ok (.invokestatic 49, 3))) zWd123 (zl_m zo149 zy123 zw_880) (zl_s zy123 zw_881)) <|
  zcons (a := (9, zi_b1 (fun x => x = 0) 22 12)) (zs_ifeq (M := 149) (pc := 9) (zd_eq zk149 (by decide +kernel : decode cX7_week 9 = .ok (.ifCond .eq 13, 3))) (by decide)) <|
  zcons (a := (12, zi_il 2 13)) (zs_il_n (M := 149) (pc := 12) (zd_eq zk149 (by decide +kernel : decode cX7_week 12 = .ok (.iload_n 2, 1)))) <|
  zcons (a := (13, zi_i2l 14)) (zs_i2l (M := 149) (pc := 13) (zd_eq zk149 (by decide +kernel : decode cX7_week 13 = .ok (.i2l, 1)))) <|
  zcons (a := (14, zi_k (.long 0) 15)) (zs_lconst (M := 149) (pc := 14) (zd_eq zk149 (by decide +kernel : decode cX7_week 14 = .ok (.lconst 0, 1))) (by decide)) <|
  zcons (a := (15, zi_k (.long 1) 16)) (zs_lconst (M := 149) (pc := 15) (zd_eq zk149 (by decide +kernel : decode cX7_week 15 = .ok (.lconst 1, 1))) (by decide)) <|
  zcons (a := (16, zi_cs 123 3 19 1)) (zs_cs (M := 149) (pc := 16) (M' := 123) (k := 3) (kd := 1) (zd_eq zk149 (by decide +kernel : decode cX7_week 16 = .ok (.invokestatic 49, 3))) zWd123 (zl_m zo149 zy123 zw_880) (zl_s zy123 zw_881)) <|
  zcons (a := (19, zi_b1 (fun x => ¬ x = 0) 24 22)) (zs_ifne (M := 149) (pc := 19) (zd_eq zk149 (by decide +kernel : decode cX7_week 19 = .ok (.ifCond .ne 5, 3))) (by decide)) <|
  zcons (a := (22, zi_k (.int (-1)) 23)) (zs_iconst (M := 149) (pc := 22) (zd_eq zk149 (by decide +kernel : decode cX7_week 22 = .ok (.iconst (-1), 1))) (by decide)) <|
  zcons (a := (23, zi_ri)) (zs_ri (M := 149) (pc := 23) (zd_eq zk149 (by decide +kernel : decode cX7_week 23 = .ok (.ireturn, 1))) rfl) <|
  zcons (a := (24, zi_il 2 25)) (zs_il_n (M := 149) (pc := 24) (zd_eq zk149 (by decide +kernel : decode cX7_week 24 = .ok (.iload_n 2, 1)))) <|
  zcons (a := (25, zi_b1 (fun x => ¬ x = 0) 42 28)) (zs_ifne (M := 149) (pc := 25) (zd_eq zk149 (by decide +kernel : decode cX7_week 25 = .ok (.ifCond .ne 17, 3))) (by decide)) <|
  zcons (a := (28, zi_al 0 29)) (zs_al_n (M := 149) (pc := 28) (zd_eq zk149 (by decide +kernel : decode cX7_week 28 = .ok (.aload_n 0, 1)))) <|
  zcons (a := (29, zi_gr 7 0 32)) (zs_gr (M := 149) (pc := 29) (n := 0) (ci := 7) (k := 0) (C := RX7) (T := TX7) (N := 26) (zd_eq zk149 (by decide +kernel : decode cX7_week 29 = .ok (.getfield 7, 3))) rfl (by decide) (by decide) zin_7 (zl_f zo149 zw_796)) <|
  zcons (a := (32, zi_k (.int 16) 34)) (zs_bipush (M := 149) (pc := 32) (zd_eq zk149 (by decide +kernel : decode cX7_week 32 = .ok (.bipush 16, 2))) (by decide)) <|
  zcons (a := (34, zi_il 1 35)) (zs_il_n (M := 149) (pc := 34) (zd_eq zk149 (by decide +kernel : decode cX7_week 34 = .ok (.iload_n 1, 1)))) <|
  zcons (a := (35, zi_bin (· + ·) 36)) (zs_iadd (M := 149) (pc := 35) (zd_eq zk149 (by decide +kernel : decode cX7_week 35 = .ok (.iadd, 1)))) <|
  zcons (a := (36, zi_ald 0 37)) (zs_iald (M := 149) (pc := 36) (zd_eq zk149 (by decide +kernel : decode cX7_week 36 = .ok (.iaload, 1)))) <|
  zcons (a := (37, zi_k (.int 1) 38)) (zs_iconst (M := 149) (pc := 37) (zd_eq zk149 (by decide +kernel : decode cX7_week 37 = .ok (.iconst 1, 1))) (by decide)) <|
  zcons (a := (38, zi_bin (· + ·) 39)) (zs_iadd (M := 149) (pc := 38) (zd_eq zk149 (by decide +kernel : decode cX7_week 38 = .ok (.iadd, 1)))) <| znil
theorem zS149_1 : ∀ q ∈ zm_c149_1, zm_Snd 149 q.1 q.2 :=
  zcons (a := (39, zi_go 53)) (zs_goto (M := 149) (pc := 39) (zd_eq zk149 (by decide +kernel : decode cX7_week 39 = .ok (.goto 14, 3))) (by decide)) <|
  zcons (a := (42, zi_al 0 43)) (zs_al_n (M := 149) (pc := 42) (zd_eq zk149 (by decide +kernel : decode cX7_week 42 = .ok (.aload_n 0, 1)))) <|
  zcons (a := (43, zi_gr 7 0 46)) (zs_gr (M := 149) (pc := 43) (n := 0) (ci := 7) (k := 0) (C := RX7) (T := TX7) (N := 26) (zd_eq zk149 (by decide +kernel : decode cX7_week 43 = .ok (.getfield 7, 3))) rfl (by decide) (by decide) zin_7 (zl_f zo149 zw_796)) <|
  zcons (a := (46, zi_k (.int 23) 48)) (zs_bipush (M := 149) (pc := 46) (zd_eq zk149 (by decide +kernel : decode cX7_week 46 = .ok (.bipush 23, 2))) (by decide)) <|
  zcons (a := (48, zi_il 1 49)) (zs_il_n (M := 149) (pc := 48) (zd_eq zk149 (by decide +kernel : decode cX7_week 48 = .ok (.iload_n 1, 1)))) <|
  zcons (a := (49, zi_bin (· + ·) 50)) (zs_iadd (M := 149) (pc := 49) (zd_eq zk149 (by decide +kernel : decode cX7_week 49 = .ok (.iadd, 1)))) <|
  zcons (a := (50, zi_ald 0 51)) (zs_iald (M := 149) (pc := 50) (zd_eq zk149 (by decide +kernel : decode cX7_week 50 = .ok (.iaload, 1)))) <|
  zcons (a := (51, zi_k (.int 4) 52)) (zs_iconst (M := 149) (pc := 51) (zd_eq zk149 (by decide +kernel : decode cX7_week 51 = .ok (.iconst 4, 1))) (by decide)) <|
  zcons (a := (52, zi_bin (· + ·) 53)) (zs_iadd (M := 149) (pc := 52) (zd_eq zk149 (by decide +kernel : decode cX7_week 52 = .ok (.iadd, 1)))) <|
  zcons (a := (53, zi_ri)) (zs_ri (M := 149) (pc := 53) (zd_eq zk149 (by decide +kernel : decode cX7_week 53 = .ok (.ireturn, 1))) rfl) <| znil
theorem zS149 : ∀ pc, zm_Snd 149 pc (zm_lk2 zm_c149 pc) := zlk2 (zcons2 zS149_0 (zcons2 zS149_1 (znil2)))
theorem zS150_0 : ∀ q ∈ zm_c150_0, zm_Snd 150 q.1 q.2 :=
  zcons (a := (0, zi_il 1 1)) (zs_il_n (M := 150) (pc := 0) (zd_eq zk150 (by decide +kernel : decode cX7_puts 0 = .ok (.iload_n 1, 1)))) <|
  zcons (a := (1, zi_b1 (fun x => ¬ x = 0) 6 4)) (zs_ifne (M := 150) (pc := 1) (zd_eq zk150 (by decide +kernel : decode cX7_puts 1 = .ok (.ifCond .ne 5, 3))) (by decide)) <|
  zcons (a := (4, zi_k (.int (-1)) 5)) (zs_iconst (M := 150) (pc := 4) (zd_eq zk150 (by decide +kernel : decode cX7_puts 4 = .ok (.iconst (-1), 1))) (by decide)) <|
  zcons (a := (5, zi_ri)) (zs_ri (M := 150) (pc := 5) (zd_eq zk150 (by decide +kernel : decode cX7_puts 5 = .ok (.ireturn, 1))) rfl) <|
  zcons (a := (6, zi_al 0 7)) (zs_al_n (M := 150) (pc := 6) (zd_eq zk150 (by decide +kernel : decode cX7_puts 6 = .ok (.aload_n 0, 1)))) <|
  zcons (a := (7, zi_gr 7 0 10)) (zs_gr (M := 150) (pc := 7) (n := 0) (ci := 7) (k := 0) (C := RX7) (T := TX7) (N := 26) (zd_eq zk150 (by decide +kernel : decode cX7_puts 7 = .ok (.getfield 7, 3))) rfl (by decide) (by decide) zin_7 (zl_f zo150 zw_796)) <|
  zcons (a := (10, zi_il 2 11)) (zs_il_n (M := 150) (pc := 10) (zd_eq zk150 (by decide +kernel : decode cX7_puts 10 = .ok (.iload_n 2, 1)))) <|
  zcons (a := (11, zi_ald 0 12)) (zs_iald (M := 150) (pc := 11) (zd_eq zk150 (by decide +kernel : decode cX7_puts 11 = .ok (.iaload, 1)))) <|
  zcons (a := (12, zi_il 4 14)) (zs_il_w (M := 150) (pc := 12) (zd_eq zk150 (by decide +kernel : decode cX7_puts 12 = .ok (.iload 4, 2)))) <|
  zcons (a := (14, zi_bin (· + ·) 15)) (zs_iadd (M := 150) (pc := 14) (zd_eq zk150 (by decide +kernel : decode cX7_puts 14 = .ok (.iadd, 1)))) <|
  zcons (a := (15, zi_is 5 17)) (zs_is_w (M := 150) (pc := 15) (zd_eq zk150 (by decide +kernel : decode cX7_puts 15 = .ok (.istore 5, 2))) (by decide +kernel) (by decide +kernel)) <|
  zcons (a := (17, zi_al 0 18)) (zs_al_n (M := 150) (pc := 17) (zd_eq zk150 (by decide +kernel : decode cX7_puts 17 = .ok (.aload_n 0, 1)))) <|
  zcons (a := (18, zi_gr 7 0 21)) (zs_gr (M := 150) (pc := 18) (n := 0) (ci := 7) (k := 0) (C := RX7) (T := TX7) (N := 26) (zd_eq zk150 (by decide +kernel : decode cX7_puts 18 = .ok (.getfield 7, 3))) rfl (by decide) (by decide) zin_7 (zl_f zo150 zw_796)) <|
  zcons (a := (21, zi_il 2 22)) (zs_il_n (M := 150) (pc := 21) (zd_eq zk150 (by decide +kernel : decode cX7_puts 21 = .ok (.iload_n 2, 1)))) <|
  zcons (a := (22, zi_il 3 23)) (zs_il_n (M := 150) (pc := 22) (zd_eq zk150 (by decide +kernel : decode cX7_puts 22 = .ok (.iload_n 3, 1)))) <|
  zcons (a := (23, zi_il 4 25)) (zs_il_w (M := 150) (pc := 23) (zd_eq zk150 (by decide +kernel : decode cX7_puts 23 = .ok (.iload 4, 2)))) <|
  zcons (a := (25, zi_bin (· - ·) 26)) (zs_isub (M := 150) (pc := 25) (zd_eq zk150 (by decide +kernel : decode cX7_puts 25 = .ok (.isub, 1)))) <|
  zcons (a := (26, zi_ast 0 (fun x => x) 27)) (zs_iast (M := 150) (pc := 26) (zd_eq zk150 (by decide +kernel : decode cX7_puts 26 = .ok (.iastore, 1)))) <|
  zcons (a := (27, zi_il 5 29)) (zs_il_w (M := 150) (pc := 27) (zd_eq zk150 (by decide +kernel : decode cX7_puts 27 = .ok (.iload 5, 2)))) <|
  zcons (a := (29, zi_ri)) (zs_ri (M := 150) (pc := 29) (zd_eq zk150 (by decide +kernel : decode cX7_puts 29 = .ok (.ireturn, 1))) rfl) <| znil
theorem zS150 : ∀ pc, zm_Snd 150 pc (zm_lk2 zm_c150 pc) := zlk2 (zcons2 zS150_0 (znil2))
theorem zS151_0 : ∀ q ∈ zm_c151_0, zm_Snd 151 q.1 q.2 :=
  zcons (a := (0, zi_il 2 1)) (zs_il_n (M := 151) (pc := 0) (zd_eq zk151 (by decide +kernel : decode cX7_alter 0 = .ok (.iload_n 2, 1)))) <|
  zcons (a := (1, zi_b1 (fun x => ¬ x = 0) 8 4)) (zs_ifne (M := 151) (pc := 1) (zd_eq zk151 (by decide +kernel : decode cX7_alter 1 = .ok (.ifCond .ne 7, 3))) (by decide)) <|
  zcons (a := (4, zi_k (.int 3) 5)) (zs_iconst (M := 151) (pc := 4) (zd_eq zk151 (by decide +kernel : decode cX7_alter 4 = .ok (.iconst 3, 1))) (by decide)) <|
  zcons (a := (5, zi_go 20)) (zs_goto (M := 151) (pc := 5) (zd_eq zk151 (by decide +kernel : decode cX7_alter 5 = .ok (.goto 15, 3))) (by decide)) <|
  zcons (a := (8, zi_il 2 9)) (zs_il_n (M := 151) (pc := 8) (zd_eq zk151 (by decide +kernel : decode cX7_alter 8 = .ok (.iload_n 2, 1)))) <|
  zcons (a := (9, zi_k (.int 1) 10)) (zs_iconst (M := 151) (pc := 9) (zd_eq zk151 (by decide +kernel : decode cX7_alter 9 = .ok (.iconst 1, 1))) (by decide)) <|
  zcons (a := (10, zi_b2 (fun x y => ¬ x = y) 18 13)) (zs_icmpne (M := 151) (pc := 10) (zd_eq zk151 (by decide +kernel : decode cX7_alter 10 = .ok (.if_icmp .ne 8, 3))) (by decide)) <|
  zcons (a := (13, zi_k (.int 99) 15)) (zs_bipush (M := 151) (pc := 13) (zd_eq zk151 (by decide +kernel : decode cX7_alter 13 = .ok (.bipush 99, 2))) (by decide)) <|
  zcons (a := (15, zi_go 20)) (zs_goto (M := 151) (pc := 15) (zd_eq zk151 (by decide +kernel : decode cX7_alter 15 = .ok (.goto 5, 3))) (by decide)) <|
  zcons (a := (18, zi_k (.int 40) 20)) (zs_bipush (M := 151) (pc := 18) (zd_eq zk151 (by decide +kernel : decode cX7_alter 18 = .ok (.bipush 40, 2))) (by decide)) <|
  zcons (a := (20, zi_is 4 22)) (zs_is_w (M := 151) (pc := 20) (zd_eq zk151 (by decide +kernel : decode cX7_alter 20 = .ok (.istore 4, 2))) (by decide +kernel) (by decide +kernel)) <|
  zcons (a := (22, zi_al 0 23)) (zs_al_n (M := 151) (pc := 22) (zd_eq zk151 (by decide +kernel : decode cX7_alter 22 = .ok (.aload_n 0, 1)))) <|
  zcons (a := (23, zi_al 0 24)) (zs_al_n (M := 151) (pc := 23) (zd_eq zk151 (by decide +kernel : decode cX7_alter 23 = .ok (.aload_n 0, 1)))) <|
  zcons (a := (24, zi_il 1 25)) (zs_il_n (M := 151) (pc := 24) (zd_eq zk151 (by decide +kernel : decode cX7_alter 24 = .ok (.iload_n 1, 1)))) <|
  zcons (a := (25, zi_cv 135 1 7 28 1)) (zs_cv (M := 151) (pc := 25) (M' := 135) (k := 1) (kd := 1) (ci := 7) (q := (RX7, TX7, 26)) (zd_eq zk151 (by decide +kernel : decode cX7_alter 25 = .ok (.invokevirtual 150, 3))) zWd135 (zl_m zo151 zy135 zw_953) (zl_i zy135 zw_955) (zl_e zy135 zw_31) (by decide) rfl (by rw [zo135])) <|
  zcons (a := (28, zi_b1 (fun x => x = 0) 59 31)) (zs_ifeq (M := 151) (pc := 28) (zd_eq zk151 (by decide +kernel : decode cX7_alter 28 = .ok (.ifCond .eq 31, 3))) (by decide)) <|
  zcons (a := (31, zi_il 2 32)) (zs_il_n (M := 151) (pc := 31) (zd_eq zk151 (by decide +kernel : decode cX7_alter 31 = .ok (.iload_n 2, 1)))) <|
  zcons (a := (32, zi_i2l 33)) (zs_i2l (M := 151) (pc := 32) (zd_eq zk151 (by decide +kernel : decode cX7_alter 32 = .ok (.i2l, 1)))) <|
  zcons (a := (33, zi_k (.long 0) 34)) (zs_lconst (M := 151) (pc := 33) (zd_eq zk151 (by decide +kernel : decode cX7_alter 33 = .ok (.lconst 0, 1))) (by decide)) <|
  zcons (a := (34, zi_k (.long 2) 37)) (zs_ldc2 (M := 151) (pc := 34) (zd_eq zk151 (by decide +kernel : decode cX7_alter 34 = .ok (.ldc2_w 154, 3))) (zl_k2 zo151 zw_981)) <|
  zcons (a := (37, zi_cs 123 3 40 1)) (zs_cs (M := 151) (pc := 37) (M' := 123) (k := 3) (kd := 1) (zd_eq zk151 (by decide +kernel : decode cX7_alter 37 = .ok (.invokestatic 49, 3))) zWd123 (zl_m zo151 zy123 zw_880) (zl_s zy123 zw_881)) <|
  zcons (a := (40, zi_b1 (fun x => x = 0) 59 43)) (zs_ifeq (M := 151) (pc := 40) (zd_eq zk151 (by decide +kernel : decode cX7_alter 40 = .ok (.ifCond .eq 19, 3))) (by decide)) <|
  zcons (a := (43, zi_il 3 44)) (zs_il_n (M := 151) (pc := 43) (zd_eq zk151 (by decide +kernel : decode cX7_alter 43 = .ok (.iload_n 3, 1)))) <|
  zcons (a := (44, zi_i2l 45)) (zs_i2l (M := 151) (pc := 44) (zd_eq zk151 (by decide +kernel : decode cX7_alter 44 = .ok (.i2l, 1)))) <| znil
theorem zS151_1 : ∀ q ∈ zm_c151_1, zm_Snd 151 q.1 q.2 :=
  zcons (a := (45, zi_k (.long 0) 46)) (zs_lconst (M := 151) (pc := 45) (zd_eq zk151 (by decide +kernel : decode cX7_alter 45 = .ok (.lconst 0, 1))) (by decide)) <|
  zcons (a := (46, zi_il 4 48)) (zs_il_w (M := 151) (pc := 46) (zd_eq zk151 (by decide +kernel : decode cX7_alter 46 = .ok (.iload 4, 2)))) <|
  zcons (a := (48, zi_i2l 49)) (zs_i2l (M := 151) (pc := 48) (zd_eq zk151 (by decide +kernel : decode cX7_alter 48 = .ok (.i2l, 1)))) <|
  zcons (a := (49, zi_cs 123 3 52 1)) (zs_cs (M := 151) (pc := 49) (M' := 123) (k := 3) (kd := 1) (zd_eq zk151 (by decide +kernel : decode cX7_alter 49 = .ok (.invokestatic 49, 3))) zWd123 (zl_m zo151 zy123 zw_880) (zl_s zy123 zw_881)) <|
  zcons (a := (52, zi_b1 (fun x => x = 0) 59 55)) (zs_ifeq (M := 151) (pc := 52) (zd_eq zk151 (by decide +kernel : decode cX7_alter 52 = .ok (.ifCond .eq 7, 3))) (by decide)) <|
  zcons (a := (55, zi_k (.int 1) 56)) (zs_iconst (M := 151) (pc := 55) (zd_eq zk151 (by decide +kernel : decode cX7_alter 55 = .ok (.iconst 1, 1))) (by decide)) <|
  zcons (a := (56, zi_go 60)) (zs_goto (M := 151) (pc := 56) (zd_eq zk151 (by decide +kernel : decode cX7_alter 56 = .ok (.goto 4, 3))) (by decide)) <|
  zcons (a := (59, zi_k (.int 0) 60)) (zs_iconst (M := 151) (pc := 59) (zd_eq zk151 (by decide +kernel : decode cX7_alter 59 = .ok (.iconst 0, 1))) (by decide)) <|
  zcons (a := (60, zi_k (.int 5) 61)) (zs_iconst (M := 151) (pc := 60) (zd_eq zk151 (by decide +kernel : decode cX7_alter 60 = .ok (.iconst 5, 1))) (by decide)) <|
  zcons (a := (61, zi_il 2 62)) (zs_il_n (M := 151) (pc := 61) (zd_eq zk151 (by decide +kernel : decode cX7_alter 61 = .ok (.iload_n 2, 1)))) <|
  zcons (a := (62, zi_bin (· * ·) 63)) (zs_imul (M := 151) (pc := 62) (zd_eq zk151 (by decide +kernel : decode cX7_alter 62 = .ok (.imul, 1)))) <|
  zcons (a := (63, zi_il 1 64)) (zs_il_n (M := 151) (pc := 63) (zd_eq zk151 (by decide +kernel : decode cX7_alter 63 = .ok (.iload_n 1, 1)))) <|
  zcons (a := (64, zi_bin (· + ·) 65)) (zs_iadd (M := 151) (pc := 64) (zd_eq zk151 (by decide +kernel : decode cX7_alter 64 = .ok (.iadd, 1)))) <|
  zcons (a := (65, zi_il 3 66)) (zs_il_n (M := 151) (pc := 65) (zd_eq zk151 (by decide +kernel : decode cX7_alter 65 = .ok (.iload_n 3, 1)))) <|
  zcons (a := (66, zi_il 2 67)) (zs_il_n (M := 151) (pc := 66) (zd_eq zk151 (by decide +kernel : decode cX7_alter 66 = .ok (.iload_n 2, 1)))) <|
  zcons (a := (67, zi_k (.int 2) 68)) (zs_iconst (M := 151) (pc := 67) (zd_eq zk151 (by decide +kernel : decode cX7_alter 67 = .ok (.iconst 2, 1))) (by decide)) <|
  zcons (a := (68, zi_b2 (fun x y => ¬ x = y) 76 71)) (zs_icmpne (M := 151) (pc := 68) (zd_eq zk151 (by decide +kernel : decode cX7_alter 68 = .ok (.if_icmp .ne 8, 3))) (by decide)) <|
  zcons (a := (71, zi_k (.int 20) 73)) (zs_bipush (M := 151) (pc := 71) (zd_eq zk151 (by decide +kernel : decode cX7_alter 71 = .ok (.bipush 20, 2))) (by decide)) <|
  zcons (a := (73, zi_go 77)) (zs_goto (M := 151) (pc := 73) (zd_eq zk151 (by decide +kernel : decode cX7_alter 73 = .ok (.goto 4, 3))) (by decide)) <|
  zcons (a := (76, zi_k (.int 0) 77)) (zs_iconst (M := 151) (pc := 76) (zd_eq zk151 (by decide +kernel : decode cX7_alter 76 = .ok (.iconst 0, 1))) (by decide)) <|
  zcons (a := (77, zi_cv 150 4 7 80 1)) (zs_cv (M := 151) (pc := 77) (M' := 150) (k := 4) (kd := 1) (ci := 7) (q := (RX7, TX7, 26)) (zd_eq zk151 (by decide +kernel : decode cX7_alter 77 = .ok (.invokevirtual 156, 3))) zWd150 (zl_m zo151 zy150 zw_982) (zl_i zy150 zw_984) (zl_e zy150 zw_36) (by decide) rfl (by rw [zo150])) <|
  zcons (a := (80, zi_ri)) (zs_ri (M := 151) (pc := 80) (zd_eq zk151 (by decide +kernel : decode cX7_alter 80 = .ok (.ireturn, 1))) rfl) <| znil
theorem zS151 : ∀ pc, zm_Snd 151 pc (zm_lk2 zm_c151 pc) := zlk2 (zcons2 zS151_0 (zcons2 zS151_1 (znil2)))
theorem zS152_0 : ∀ q ∈ zm_c152_0, zm_Snd 152 q.1 q.2 :=
  zcons (a := (0, zi_al 0 1)) (zs_al_n (M := 152) (pc := 0) (zd_eq zk152 (by decide +kernel : decode cX7_set 0 = .ok (.aload_n 0, 1)))) <|
  zcons (a := (1, zi_il 1 2)) (zs_il_n (M := 152) (pc := 1) (zd_eq zk152 (by decide +kernel : decode cX7_set 1 = .ok (.iload_n 1, 1)))) <|
  zcons (a := (2, zi_i2l 3)) (zs_i2l (M := 152) (pc := 2) (zd_eq zk152 (by decide +kernel : decode cX7_set 2 = .ok (.i2l, 1)))) <|
  zcons (a := (3, zi_k (.long 0) 4)) (zs_lconst (M := 152) (pc := 3) (zd_eq zk152 (by decide +kernel : decode cX7_set 3 = .ok (.lconst 0, 1))) (by decide)) <|
  zcons (a := (4, zi_k (.long 6) 7)) (zs_ldc2 (M := 152) (pc := 4) (zd_eq zk152 (by decide +kernel : decode cX7_set 4 = .ok (.ldc2_w 98, 3))) (zl_k2 zo152 zw_924)) <|
  zcons (a := (7, zi_cs 123 3 10 1)) (zs_cs (M := 152) (pc := 7) (M' := 123) (k := 3) (kd := 1) (zd_eq zk152 (by decide +kernel : decode cX7_set 7 = .ok (.invokestatic 49, 3))) zWd123 (zl_m zo152 zy123 zw_880) (zl_s zy123 zw_881)) <|
  zcons (a := (10, zi_b1 (fun x => x = 0) 49 13)) (zs_ifeq (M := 152) (pc := 10) (zd_eq zk152 (by decide +kernel : decode cX7_set 10 = .ok (.ifCond .eq 39, 3))) (by decide)) <|
  zcons (a := (13, zi_il 2 14)) (zs_il_n (M := 152) (pc := 13) (zd_eq zk152 (by decide +kernel : decode cX7_set 13 = .ok (.iload_n 2, 1)))) <|
  zcons (a := (14, zi_i2l 15)) (zs_i2l (M := 152) (pc := 14) (zd_eq zk152 (by decide +kernel : decode cX7_set 14 = .ok (.i2l, 1)))) <|
  zcons (a := (15, zi_k (.long 0) 16)) (zs_lconst (M := 152) (pc := 15) (zd_eq zk152 (by decide +kernel : decode cX7_set 15 = .ok (.lconst 0, 1))) (by decide)) <|
  zcons (a := (16, zi_k (.long 1) 17)) (zs_lconst (M := 152) (pc := 16) (zd_eq zk152 (by decide +kernel : decode cX7_set 16 = .ok (.lconst 1, 1))) (by decide)) <|
  zcons (a := (17, zi_cs 123 3 20 1)) (zs_cs (M := 152) (pc := 17) (M' := 123) (k := 3) (kd := 1) (zd_eq zk152 (by decide +kernel : decode cX7_set 17 = .ok (.invokestatic 49, 3))) zWd123 (zl_m zo152 zy123 zw_880) (zl_s zy123 zw_881)) <|
  zcons (a := (20, zi_b1 (fun x => x = 0) 49 23)) (zs_ifeq (M := 152) (pc := 20) (zd_eq zk152 (by decide +kernel : decode cX7_set 20 = .ok (.ifCond .eq 29, 3))) (by decide)) <|
  zcons (a := (23, zi_il 3 24)) (zs_il_n (M := 152) (pc := 23) (zd_eq zk152 (by decide +kernel : decode cX7_set 23 = .ok (.iload_n 3, 1)))) <|
  zcons (a := (24, zi_i2l 25)) (zs_i2l (M := 152) (pc := 24) (zd_eq zk152 (by decide +kernel : decode cX7_set 24 = .ok (.i2l, 1)))) <|
  zcons (a := (25, zi_k (.long 0) 26)) (zs_lconst (M := 152) (pc := 25) (zd_eq zk152 (by decide +kernel : decode cX7_set 25 = .ok (.lconst 0, 1))) (by decide)) <|
  zcons (a := (26, zi_il 2 27)) (zs_il_n (M := 152) (pc := 26) (zd_eq zk152 (by decide +kernel : decode cX7_set 26 = .ok (.iload_n 2, 1)))) <|
  zcons (a := (27, zi_b1 (fun x => ¬ x = 0) 36 30)) (zs_ifne (M := 152) (pc := 27) (zd_eq zk152 (by decide +kernel : decode cX7_set 27 = .ok (.ifCond .ne 9, 3))) (by decide)) <|
  zcons (a := (30, zi_k (.long 9) 33)) (zs_ldc2 (M := 152) (pc := 30) (zd_eq zk152 (by decide +kernel : decode cX7_set 30 = .ok (.ldc2_w 160, 3))) (zl_k2 zo152 zw_990)) <|
  zcons (a := (33, zi_go 39)) (zs_goto (M := 152) (pc := 33) (zd_eq zk152 (by decide +kernel : decode cX7_set 33 = .ok (.goto 6, 3))) (by decide)) <|
  zcons (a := (36, zi_k (.long 8) 39)) (zs_ldc2 (M := 152) (pc := 36) (zd_eq zk152 (by decide +kernel : decode cX7_set 36 = .ok (.ldc2_w 162, 3))) (zl_k2 zo152 zw_991)) <|
  zcons (a := (39, zi_cs 123 3 42 1)) (zs_cs (M := 152) (pc := 39) (M' := 123) (k := 3) (kd := 1) (zd_eq zk152 (by decide +kernel : decode cX7_set 39 = .ok (.invokestatic 49, 3))) zWd123 (zl_m zo152 zy123 zw_880) (zl_s zy123 zw_881)) <|
  zcons (a := (42, zi_b1 (fun x => x = 0) 49 45)) (zs_ifeq (M := 152) (pc := 42) (zd_eq zk152 (by decide +kernel : decode cX7_set 42 = .ok (.ifCond .eq 7, 3))) (by decide)) <|
  zcons (a := (45, zi_k (.int 1) 46)) (zs_iconst (M := 152) (pc := 45) (zd_eq zk152 (by decide +kernel : decode cX7_set 45 = .ok (.iconst 1, 1))) (by decide)) <| znil
theorem zS152_1 : ∀ q ∈ zm_c152_1, zm_Snd 152 q.1 q.2 :=
  zcons (a := (46, zi_go 50)) (zs_goto (M := 152) (pc := 46) (zd_eq zk152 (by decide +kernel : decode cX7_set 46 = .ok (.goto 4, 3))) (by decide)) <|
  zcons (a := (49, zi_k (.int 0) 50)) (zs_iconst (M := 152) (pc := 49) (zd_eq zk152 (by decide +kernel : decode cX7_set 49 = .ok (.iconst 0, 1))) (by decide)) <|
  zcons (a := (50, zi_k (.int 16) 52)) (zs_bipush (M := 152) (pc := 50) (zd_eq zk152 (by decide +kernel : decode cX7_set 50 = .ok (.bipush 16, 2))) (by decide)) <|
  zcons (a := (52, zi_k (.int 7) 54)) (zs_bipush (M := 152) (pc := 52) (zd_eq zk152 (by decide +kernel : decode cX7_set 52 = .ok (.bipush 7, 2))) (by decide)) <|
  zcons (a := (54, zi_il 2 55)) (zs_il_n (M := 152) (pc := 54) (zd_eq zk152 (by decide +kernel : decode cX7_set 54 = .ok (.iload_n 2, 1)))) <|
  zcons (a := (55, zi_bin (· * ·) 56)) (zs_imul (M := 152) (pc := 55) (zd_eq zk152 (by decide +kernel : decode cX7_set 55 = .ok (.imul, 1)))) <|
  zcons (a := (56, zi_bin (· + ·) 57)) (zs_iadd (M := 152) (pc := 56) (zd_eq zk152 (by decide +kernel : decode cX7_set 56 = .ok (.iadd, 1)))) <|
  zcons (a := (57, zi_il 1 58)) (zs_il_n (M := 152) (pc := 57) (zd_eq zk152 (by decide +kernel : decode cX7_set 57 = .ok (.iload_n 1, 1)))) <|
  zcons (a := (58, zi_bin (· + ·) 59)) (zs_iadd (M := 152) (pc := 58) (zd_eq zk152 (by decide +kernel : decode cX7_set 58 = .ok (.iadd, 1)))) <|
  zcons (a := (59, zi_il 3 60)) (zs_il_n (M := 152) (pc := 59) (zd_eq zk152 (by decide +kernel : decode cX7_set 59 = .ok (.iload_n 3, 1)))) <|
  zcons (a := (60, zi_il 2 61)) (zs_il_n (M := 152) (pc := 60) (zd_eq zk152 (by decide +kernel : decode cX7_set 60 = .ok (.iload_n 2, 1)))) <|
  zcons (a := (61, zi_b1 (fun x => ¬ x = 0) 68 64)) (zs_ifne (M := 152) (pc := 61) (zd_eq zk152 (by decide +kernel : decode cX7_set 61 = .ok (.ifCond .ne 7, 3))) (by decide)) <|
  zcons (a := (64, zi_k (.int 1) 65)) (zs_iconst (M := 152) (pc := 64) (zd_eq zk152 (by decide +kernel : decode cX7_set 64 = .ok (.iconst 1, 1))) (by decide)) <|
  zcons (a := (65, zi_go 69)) (zs_goto (M := 152) (pc := 65) (zd_eq zk152 (by decide +kernel : decode cX7_set 65 = .ok (.goto 4, 3))) (by decide)) <|
  zcons (a := (68, zi_k (.int 4) 69)) (zs_iconst (M := 152) (pc := 68) (zd_eq zk152 (by decide +kernel : decode cX7_set 68 = .ok (.iconst 4, 1))) (by decide)) <|
  zcons (a := (69, zi_cv 150 4 7 72 1)) (zs_cv (M := 152) (pc := 69) (M' := 150) (k := 4) (kd := 1) (ci := 7) (q := (RX7, TX7, 26)) (zd_eq zk152 (by decide +kernel : decode cX7_set 69 = .ok (.invokevirtual 156, 3))) zWd150 (zl_m zo152 zy150 zw_982) (zl_i zy150 zw_984) (zl_e zy150 zw_36) (by decide) rfl (by rw [zo150])) <|
  zcons (a := (72, zi_ri)) (zs_ri (M := 152) (pc := 72) (zd_eq zk152 (by decide +kernel : decode cX7_set 72 = .ok (.ireturn, 1))) rfl) <| znil
theorem zS152 : ∀ pc, zm_Snd 152 pc (zm_lk2 zm_c152 pc) := zlk2 (zcons2 zS152_0 (zcons2 zS152_1 (znil2)))
theorem zS153_0 : ∀ q ∈ zm_c153_0, zm_Snd 153 q.1 q.2 :=
  zcons (a := (0, zi_il 1 1)) (zs_il_n (M := 153) (pc := 0) (zd_eq zk153 (by decide +kernel : decode cX7_rolls 0 = .ok (.iload_n 1, 1)))) <|
  zcons (a := (1, zi_i2l 2)) (zs_i2l (M := 153) (pc := 1) (zd_eq zk153 (by decide +kernel : decode cX7_rolls 1 = .ok (.i2l, 1)))) <|
  zcons (a := (2, zi_k (.long 0) 3)) (zs_lconst (M := 153) (pc := 2) (zd_eq zk153 (by decide +kernel : decode cX7_rolls 2 = .ok (.lconst 0, 1))) (by decide)) <|
  zcons (a := (3, zi_k (.long 3) 6)) (zs_ldc2 (M := 153) (pc := 3) (zd_eq zk153 (by decide +kernel : decode cX7_rolls 3 = .ok (.ldc2_w 164, 3))) (zl_k2 zo153 zw_1000)) <|
  zcons (a := (6, zi_cs 123 3 9 1)) (zs_cs (M := 153) (pc := 6) (M' := 123) (k := 3) (kd := 1) (zd_eq zk153 (by decide +kernel : decode cX7_rolls 6 = .ok (.invokestatic 49, 3))) zWd123 (zl_m zo153 zy123 zw_880) (zl_s zy123 zw_881)) <|
  zcons (a := (9, zi_b1 (fun x => x = 0) 24 12)) (zs_ifeq (M := 153) (pc := 9) (zd_eq zk153 (by decide +kernel : decode cX7_rolls 9 = .ok (.ifCond .eq 15, 3))) (by decide)) <|
  zcons (a := (12, zi_il 2 13)) (zs_il_n (M := 153) (pc := 12) (zd_eq zk153 (by decide +kernel : decode cX7_rolls 12 = .ok (.iload_n 2, 1)))) <|
  zcons (a := (13, zi_i2l 14)) (zs_i2l (M := 153) (pc := 13) (zd_eq zk153 (by decide +kernel : decode cX7_rolls 13 = .ok (.i2l, 1)))) <|
  zcons (a := (14, zi_k (.long 0) 15)) (zs_lconst (M := 153) (pc := 14) (zd_eq zk153 (by decide +kernel : decode cX7_rolls 14 = .ok (.lconst 0, 1))) (by decide)) <|
  zcons (a := (15, zi_k (.long 99) 18)) (zs_ldc2 (M := 153) (pc := 15) (zd_eq zk153 (by decide +kernel : decode cX7_rolls 15 = .ok (.ldc2_w 166, 3))) (zl_k2 zo153 zw_1001)) <|
  zcons (a := (18, zi_cs 123 3 21 1)) (zs_cs (M := 153) (pc := 18) (M' := 123) (k := 3) (kd := 1) (zd_eq zk153 (by decide +kernel : decode cX7_rolls 18 = .ok (.invokestatic 49, 3))) zWd123 (zl_m zo153 zy123 zw_880) (zl_s zy123 zw_881)) <|
  zcons (a := (21, zi_b1 (fun x => ¬ x = 0) 26 24)) (zs_ifne (M := 153) (pc := 21) (zd_eq zk153 (by decide +kernel : decode cX7_rolls 21 = .ok (.ifCond .ne 5, 3))) (by decide)) <|
  zcons (a := (24, zi_k (.int (-1)) 25)) (zs_iconst (M := 153) (pc := 24) (zd_eq zk153 (by decide +kernel : decode cX7_rolls 24 = .ok (.iconst (-1), 1))) (by decide)) <|
  zcons (a := (25, zi_ri)) (zs_ri (M := 153) (pc := 25) (zd_eq zk153 (by decide +kernel : decode cX7_rolls 25 = .ok (.ireturn, 1))) rfl) <|
  zcons (a := (26, zi_al 0 27)) (zs_al_n (M := 153) (pc := 26) (zd_eq zk153 (by decide +kernel : decode cX7_rolls 26 = .ok (.aload_n 0, 1)))) <|
  zcons (a := (27, zi_gr 7 0 30)) (zs_gr (M := 153) (pc := 27) (n := 0) (ci := 7) (k := 0) (C := RX7) (T := TX7) (N := 26) (zd_eq zk153 (by decide +kernel : decode cX7_rolls 27 = .ok (.getfield 7, 3))) rfl (by decide) (by decide) zin_7 (zl_f zo153 zw_796)) <|
  zcons (a := (30, zi_k (.int 15) 32)) (zs_bipush (M := 153) (pc := 30) (zd_eq zk153 (by decide +kernel : decode cX7_rolls 30 = .ok (.bipush 15, 2))) (by decide)) <|
  zcons (a := (32, zi_ald 0 33)) (zs_iald (M := 153) (pc := 32) (zd_eq zk153 (by decide +kernel : decode cX7_rolls 32 = .ok (.iaload, 1)))) <|
  zcons (a := (33, zi_is 3 34)) (zs_is_n (M := 153) (pc := 33) (zd_eq zk153 (by decide +kernel : decode cX7_rolls 33 = .ok (.istore_n 3, 1))) (by decide +kernel) (by decide +kernel)) <|
  zcons (a := (34, zi_il 3 35)) (zs_il_n (M := 153) (pc := 34) (zd_eq zk153 (by decide +kernel : decode cX7_rolls 34 = .ok (.iload_n 3, 1)))) <|
  zcons (a := (35, zi_k (.int 5) 36)) (zs_iconst (M := 153) (pc := 35) (zd_eq zk153 (by decide +kernel : decode cX7_rolls 35 = .ok (.iconst 5, 1))) (by decide)) <|
  zcons (a := (36, zi_b2 (fun x y => ¬ x = y) 42 39)) (zs_icmpne (M := 153) (pc := 36) (zd_eq zk153 (by decide +kernel : decode cX7_rolls 36 = .ok (.if_icmp .ne 6, 3))) (by decide)) <|
  zcons (a := (39, zi_k (.int (-3)) 41)) (zs_bipush (M := 153) (pc := 39) (zd_eq zk153 (by decide +kernel : decode cX7_rolls 39 = .ok (.bipush (-3), 2))) (by decide)) <|
  zcons (a := (41, zi_ri)) (zs_ri (M := 153) (pc := 41) (zd_eq zk153 (by decide +kernel : decode cX7_rolls 41 = .ok (.ireturn, 1))) rfl) <| znil
theorem zS153_1 : ∀ q ∈ zm_c153_1, zm_Snd 153 q.1 q.2 :=
  zcons (a := (42, zi_al 0 43)) (zs_al_n (M := 153) (pc := 42) (zd_eq zk153 (by decide +kernel : decode cX7_rolls 42 = .ok (.aload_n 0, 1)))) <|
  zcons (a := (43, zi_gr 7 0 46)) (zs_gr (M := 153) (pc := 43) (n := 0) (ci := 7) (k := 0) (C := RX7) (T := TX7) (N := 26) (zd_eq zk153 (by decide +kernel : decode cX7_rolls 43 = .ok (.getfield 7, 3))) rfl (by decide) (by decide) zin_7 (zl_f zo153 zw_796)) <|
  zcons (a := (46, zi_il 3 47)) (zs_il_n (M := 153) (pc := 46) (zd_eq zk153 (by decide +kernel : decode cX7_rolls 46 = .ok (.iload_n 3, 1)))) <|
  zcons (a := (47, zi_il 1 48)) (zs_il_n (M := 153) (pc := 47) (zd_eq zk153 (by decide +kernel : decode cX7_rolls 47 = .ok (.iload_n 1, 1)))) <|
  zcons (a := (48, zi_ast 0 (fun x => x) 49)) (zs_iast (M := 153) (pc := 48) (zd_eq zk153 (by decide +kernel : decode cX7_rolls 48 = .ok (.iastore, 1)))) <|
  zcons (a := (49, zi_al 0 50)) (zs_al_n (M := 153) (pc := 49) (zd_eq zk153 (by decide +kernel : decode cX7_rolls 49 = .ok (.aload_n 0, 1)))) <|
  zcons (a := (50, zi_gr 7 0 53)) (zs_gr (M := 153) (pc := 50) (n := 0) (ci := 7) (k := 0) (C := RX7) (T := TX7) (N := 26) (zd_eq zk153 (by decide +kernel : decode cX7_rolls 50 = .ok (.getfield 7, 3))) rfl (by decide) (by decide) zin_7 (zl_f zo153 zw_796)) <|
  zcons (a := (53, zi_k (.int 5) 54)) (zs_iconst (M := 153) (pc := 53) (zd_eq zk153 (by decide +kernel : decode cX7_rolls 53 = .ok (.iconst 5, 1))) (by decide)) <|
  zcons (a := (54, zi_il 3 55)) (zs_il_n (M := 153) (pc := 54) (zd_eq zk153 (by decide +kernel : decode cX7_rolls 54 = .ok (.iload_n 3, 1)))) <|
  zcons (a := (55, zi_bin (· + ·) 56)) (zs_iadd (M := 153) (pc := 55) (zd_eq zk153 (by decide +kernel : decode cX7_rolls 55 = .ok (.iadd, 1)))) <|
  zcons (a := (56, zi_il 2 57)) (zs_il_n (M := 153) (pc := 56) (zd_eq zk153 (by decide +kernel : decode cX7_rolls 56 = .ok (.iload_n 2, 1)))) <|
  zcons (a := (57, zi_ast 0 (fun x => x) 58)) (zs_iast (M := 153) (pc := 57) (zd_eq zk153 (by decide +kernel : decode cX7_rolls 57 = .ok (.iastore, 1)))) <|
  zcons (a := (58, zi_al 0 59)) (zs_al_n (M := 153) (pc := 58) (zd_eq zk153 (by decide +kernel : decode cX7_rolls 58 = .ok (.aload_n 0, 1)))) <|
  zcons (a := (59, zi_gr 7 0 62)) (zs_gr (M := 153) (pc := 59) (n := 0) (ci := 7) (k := 0) (C := RX7) (T := TX7) (N := 26) (zd_eq zk153 (by decide +kernel : decode cX7_rolls 59 = .ok (.getfield 7, 3))) rfl (by decide) (by decide) zin_7 (zl_f zo153 zw_796)) <|
  zcons (a := (62, zi_k (.int 10) 64)) (zs_bipush (M := 153) (pc := 62) (zd_eq zk153 (by decide +kernel : decode cX7_rolls 62 = .ok (.bipush 10, 2))) (by decide)) <|
  zcons (a := (64, zi_il 3 65)) (zs_il_n (M := 153) (pc := 64) (zd_eq zk153 (by decide +kernel : decode cX7_rolls 64 = .ok (.iload_n 3, 1)))) <|
  zcons (a := (65, zi_bin (· + ·) 66)) (zs_iadd (M := 153) (pc := 65) (zd_eq zk153 (by decide +kernel : decode cX7_rolls 65 = .ok (.iadd, 1)))) <|
  zcons (a := (66, zi_k (.int 0) 67)) (zs_iconst (M := 153) (pc := 66) (zd_eq zk153 (by decide +kernel : decode cX7_rolls 66 = .ok (.iconst 0, 1))) (by decide)) <|
  zcons (a := (67, zi_ast 0 (fun x => x) 68)) (zs_iast (M := 153) (pc := 67) (zd_eq zk153 (by decide +kernel : decode cX7_rolls 67 = .ok (.iastore, 1)))) <|
  zcons (a := (68, zi_al 0 69)) (zs_al_n (M := 153) (pc := 68) (zd_eq zk153 (by decide +kernel : decode cX7_rolls 68 = .ok (.aload_n 0, 1)))) <|
  zcons (a := (69, zi_gr 7 0 72)) (zs_gr (M := 153) (pc := 69) (n := 0) (ci := 7) (k := 0) (C := RX7) (T := TX7) (N := 26) (zd_eq zk153 (by decide +kernel : decode cX7_rolls 69 = .ok (.getfield 7, 3))) rfl (by decide) (by decide) zin_7 (zl_f zo153 zw_796)) <|
  zcons (a := (72, zi_k (.int 15) 74)) (zs_bipush (M := 153) (pc := 72) (zd_eq zk153 (by decide +kernel : decode cX7_rolls 72 = .ok (.bipush 15, 2))) (by decide)) <|
  zcons (a := (74, zi_dup2 75)) (zs_dup2 (M := 153) (pc := 74) (zd_eq zk153 (by decide +kernel : decode cX7_rolls 74 = .ok (.dup2, 1)))) <|
  zcons (a := (75, zi_ald 0 76)) (zs_iald (M := 153) (pc := 75) (zd_eq zk153 (by decide +kernel : decode cX7_rolls 75 = .ok (.iaload, 1)))) <| znil
theorem zS153_2 : ∀ q ∈ zm_c153_2, zm_Snd 153 q.1 q.2 :=
  zcons (a := (76, zi_k (.int 1) 77)) (zs_iconst (M := 153) (pc := 76) (zd_eq zk153 (by decide +kernel : decode cX7_rolls 76 = .ok (.iconst 1, 1))) (by decide)) <|
  zcons (a := (77, zi_bin (· + ·) 78)) (zs_iadd (M := 153) (pc := 77) (zd_eq zk153 (by decide +kernel : decode cX7_rolls 77 = .ok (.iadd, 1)))) <|
  zcons (a := (78, zi_ast 0 (fun x => x) 79)) (zs_iast (M := 153) (pc := 78) (zd_eq zk153 (by decide +kernel : decode cX7_rolls 78 = .ok (.iastore, 1)))) <|
  zcons (a := (79, zi_al 0 80)) (zs_al_n (M := 153) (pc := 79) (zd_eq zk153 (by decide +kernel : decode cX7_rolls 79 = .ok (.aload_n 0, 1)))) <|
  zcons (a := (80, zi_gr 7 0 83)) (zs_gr (M := 153) (pc := 80) (n := 0) (ci := 7) (k := 0) (C := RX7) (T := TX7) (N := 26) (zd_eq zk153 (by decide +kernel : decode cX7_rolls 80 = .ok (.getfield 7, 3))) rfl (by decide) (by decide) zin_7 (zl_f zo153 zw_796)) <|
  zcons (a := (83, zi_k (.int 15) 85)) (zs_bipush (M := 153) (pc := 83) (zd_eq zk153 (by decide +kernel : decode cX7_rolls 83 = .ok (.bipush 15, 2))) (by decide)) <|
  zcons (a := (85, zi_ald 0 86)) (zs_iald (M := 153) (pc := 85) (zd_eq zk153 (by decide +kernel : decode cX7_rolls 85 = .ok (.iaload, 1)))) <|
  zcons (a := (86, zi_ri)) (zs_ri (M := 153) (pc := 86) (zd_eq zk153 (by decide +kernel : decode cX7_rolls 86 = .ok (.ireturn, 1))) rfl) <| znil
theorem zS153 : ∀ pc, zm_Snd 153 pc (zm_lk2 zm_c153 pc) := zlk2 (zcons2 zS153_0 (zcons2 zS153_1 (zcons2 zS153_2 (znil2))))
theorem zS154_0 : ∀ q ∈ zm_c154_0, zm_Snd 154 q.1 q.2 :=
  zcons (a := (0, zi_al 0 1)) (zs_al_n (M := 154) (pc := 0) (zd_eq zk154 (by decide +kernel : decode cX7_roll 0 = .ok (.aload_n 0, 1)))) <|
  zcons (a := (1, zi_il 1 2)) (zs_il_n (M := 154) (pc := 1) (zd_eq zk154 (by decide +kernel : decode cX7_roll 1 = .ok (.iload_n 1, 1)))) <|
  zcons (a := (2, zi_il 2 3)) (zs_il_n (M := 154) (pc := 2) (zd_eq zk154 (by decide +kernel : decode cX7_roll 2 = .ok (.iload_n 2, 1)))) <|
  zcons (a := (3, zi_cv 153 2 7 6 1)) (zs_cv (M := 154) (pc := 3) (M' := 153) (k := 2) (kd := 1) (ci := 7) (q := (RX7, TX7, 26)) (zd_eq zk154 (by decide +kernel : decode cX7_roll 3 = .ok (.invokevirtual 168, 3))) zWd153 (zl_m zo154 zy153 zw_996) (zl_i zy153 zw_998) (zl_e zy153 zw_37) (by decide) rfl (by rw [zo153])) <|
  zcons (a := (6, zi_ri)) (zs_ri (M := 154) (pc := 6) (zd_eq zk154 (by decide +kernel : decode cX7_roll 6 = .ok (.ireturn, 1))) rfl) <| znil
theorem zS154 : ∀ pc, zm_Snd 154 pc (zm_lk2 zm_c154 pc) := zlk2 (zcons2 zS154_0 (znil2))
theorem zS155_0 : ∀ q ∈ zm_c155_0, zm_Snd 155 q.1 q.2 :=
  zcons (a := (0, zi_al 0 1)) (zs_al_n (M := 155) (pc := 0) (zd_eq zk155 (by decide +kernel : decode cX7_stands 0 = .ok (.aload_n 0, 1)))) <|
  zcons (a := (1, zi_il 1 2)) (zs_il_n (M := 155) (pc := 1) (zd_eq zk155 (by decide +kernel : decode cX7_stands 1 = .ok (.iload_n 1, 1)))) <|
  zcons (a := (2, zi_cv 135 1 7 5 1)) (zs_cv (M := 155) (pc := 2) (M' := 135) (k := 1) (kd := 1) (ci := 7) (q := (RX7, TX7, 26)) (zd_eq zk155 (by decide +kernel : decode cX7_stands 2 = .ok (.invokevirtual 150, 3))) zWd135 (zl_m zo155 zy135 zw_953) (zl_i zy135 zw_955) (zl_e zy135 zw_31) (by decide) rfl (by rw [zo135])) <|
  zcons (a := (5, zi_b1 (fun x => ¬ x = 0) 12 8)) (zs_ifne (M := 155) (pc := 5) (zd_eq zk155 (by decide +kernel : decode cX7_stands 5 = .ok (.ifCond .ne 7, 3))) (by decide)) <|
  zcons (a := (8, zi_k (.int (-1)) 9)) (zs_iconst (M := 155) (pc := 8) (zd_eq zk155 (by decide +kernel : decode cX7_stands 8 = .ok (.iconst (-1), 1))) (by decide)) <|
  zcons (a := (9, zi_go 29)) (zs_goto (M := 155) (pc := 9) (zd_eq zk155 (by decide +kernel : decode cX7_stands 9 = .ok (.goto 20, 3))) (by decide)) <|
  zcons (a := (12, zi_al 0 13)) (zs_al_n (M := 155) (pc := 12) (zd_eq zk155 (by decide +kernel : decode cX7_stands 12 = .ok (.aload_n 0, 1)))) <|
  zcons (a := (13, zi_gr 7 0 16)) (zs_gr (M := 155) (pc := 13) (n := 0) (ci := 7) (k := 0) (C := RX7) (T := TX7) (N := 26) (zd_eq zk155 (by decide +kernel : decode cX7_stands 13 = .ok (.getfield 7, 3))) rfl (by decide) (by decide) zin_7 (zl_f zo155 zw_796)) <|
  zcons (a := (16, zi_k (.int 5) 17)) (zs_iconst (M := 155) (pc := 16) (zd_eq zk155 (by decide +kernel : decode cX7_stands 16 = .ok (.iconst 5, 1))) (by decide)) <|
  zcons (a := (17, zi_il 1 18)) (zs_il_n (M := 155) (pc := 17) (zd_eq zk155 (by decide +kernel : decode cX7_stands 17 = .ok (.iload_n 1, 1)))) <|
  zcons (a := (18, zi_bin (· + ·) 19)) (zs_iadd (M := 155) (pc := 18) (zd_eq zk155 (by decide +kernel : decode cX7_stands 18 = .ok (.iadd, 1)))) <|
  zcons (a := (19, zi_ald 0 20)) (zs_iald (M := 155) (pc := 19) (zd_eq zk155 (by decide +kernel : decode cX7_stands 19 = .ok (.iaload, 1)))) <|
  zcons (a := (20, zi_b1 (fun x => ¬ x = 0) 28 23)) (zs_ifne (M := 155) (pc := 20) (zd_eq zk155 (by decide +kernel : decode cX7_stands 20 = .ok (.ifCond .ne 8, 3))) (by decide)) <|
  zcons (a := (23, zi_k (.int (-2)) 25)) (zs_bipush (M := 155) (pc := 23) (zd_eq zk155 (by decide +kernel : decode cX7_stands 23 = .ok (.bipush (-2), 2))) (by decide)) <|
  zcons (a := (25, zi_go 29)) (zs_goto (M := 155) (pc := 25) (zd_eq zk155 (by decide +kernel : decode cX7_stands 25 = .ok (.goto 4, 3))) (by decide)) <|
  zcons (a := (28, zi_k (.int 0) 29)) (zs_iconst (M := 155) (pc := 28) (zd_eq zk155 (by decide +kernel : decode cX7_stands 28 = .ok (.iconst 0, 1))) (by decide)) <|
  zcons (a := (29, zi_ri)) (zs_ri (M := 155) (pc := 29) (zd_eq zk155 (by decide +kernel : decode cX7_stands 29 = .ok (.ireturn, 1))) rfl) <| znil
theorem zS155 : ∀ pc, zm_Snd 155 pc (zm_lk2 zm_c155 pc) := zlk2 (zcons2 zS155_0 (znil2))
theorem zS156_0 : ∀ q ∈ zm_c156_0, zm_Snd 156 q.1 q.2 :=
  zcons (a := (0, zi_al 0 1)) (zs_al_n (M := 156) (pc := 0) (zd_eq zk156 (by decide +kernel : decode cX7_ice 0 = .ok (.aload_n 0, 1)))) <|
  zcons (a := (1, zi_il 1 2)) (zs_il_n (M := 156) (pc := 1) (zd_eq zk156 (by decide +kernel : decode cX7_ice 1 = .ok (.iload_n 1, 1)))) <|
  zcons (a := (2, zi_cv 155 1 7 5 1)) (zs_cv (M := 156) (pc := 2) (M' := 155) (k := 1) (kd := 1) (ci := 7) (q := (RX7, TX7, 26)) (zd_eq zk156 (by decide +kernel : decode cX7_ice 2 = .ok (.invokevirtual 171, 3))) zWd155 (zl_m zo156 zy155 zw_1006) (zl_i zy155 zw_1008) (zl_e zy155 zw_38) (by decide) rfl (by rw [zo155])) <|
  zcons (a := (5, zi_is 2 6)) (zs_is_n (M := 156) (pc := 5) (zd_eq zk156 (by decide +kernel : decode cX7_ice 5 = .ok (.istore_n 2, 1))) (by decide +kernel) (by decide +kernel)) <|
  zcons (a := (6, zi_il 2 7)) (zs_il_n (M := 156) (pc := 6) (zd_eq zk156 (by decide +kernel : decode cX7_ice 6 = .ok (.iload_n 2, 1)))) <|
  zcons (a := (7, zi_b1 (fun x => 0 ≤ x) 14 10)) (zs_ifge (M := 156) (pc := 7) (zd_eq zk156 (by decide +kernel : decode cX7_ice 7 = .ok (.ifCond .ge 7, 3))) (by decide)) <|
  zcons (a := (10, zi_il 2 11)) (zs_il_n (M := 156) (pc := 10) (zd_eq zk156 (by decide +kernel : decode cX7_ice 10 = .ok (.iload_n 2, 1)))) <|
  zcons (a := (11, zi_go 22)) (zs_goto (M := 156) (pc := 11) (zd_eq zk156 (by decide +kernel : decode cX7_ice 11 = .ok (.goto 11, 3))) (by decide)) <|
  zcons (a := (14, zi_al 0 15)) (zs_al_n (M := 156) (pc := 14) (zd_eq zk156 (by decide +kernel : decode cX7_ice 14 = .ok (.aload_n 0, 1)))) <|
  zcons (a := (15, zi_k (.int 1) 16)) (zs_iconst (M := 156) (pc := 15) (zd_eq zk156 (by decide +kernel : decode cX7_ice 15 = .ok (.iconst 1, 1))) (by decide)) <|
  zcons (a := (16, zi_il 1 17)) (zs_il_n (M := 156) (pc := 16) (zd_eq zk156 (by decide +kernel : decode cX7_ice 16 = .ok (.iload_n 1, 1)))) <|
  zcons (a := (17, zi_k (.int 3) 18)) (zs_iconst (M := 156) (pc := 17) (zd_eq zk156 (by decide +kernel : decode cX7_ice 17 = .ok (.iconst 3, 1))) (by decide)) <|
  zcons (a := (18, zi_k (.int 0) 19)) (zs_iconst (M := 156) (pc := 18) (zd_eq zk156 (by decide +kernel : decode cX7_ice 18 = .ok (.iconst 0, 1))) (by decide)) <|
  zcons (a := (19, zi_cv 150 4 7 22 1)) (zs_cv (M := 156) (pc := 19) (M' := 150) (k := 4) (kd := 1) (ci := 7) (q := (RX7, TX7, 26)) (zd_eq zk156 (by decide +kernel : decode cX7_ice 19 = .ok (.invokevirtual 156, 3))) zWd150 (zl_m zo156 zy150 zw_982) (zl_i zy150 zw_984) (zl_e zy150 zw_36) (by decide) rfl (by rw [zo150])) <|
  zcons (a := (22, zi_ri)) (zs_ri (M := 156) (pc := 22) (zd_eq zk156 (by decide +kernel : decode cX7_ice 22 = .ok (.ireturn, 1))) rfl) <| znil
theorem zS156 : ∀ pc, zm_Snd 156 pc (zm_lk2 zm_c156 pc) := zlk2 (zcons2 zS156_0 (znil2))
theorem zS157_0 : ∀ q ∈ zm_c157_0, zm_Snd 157 q.1 q.2 :=
  zcons (a := (0, zi_al 0 1)) (zs_al_n (M := 157) (pc := 0) (zd_eq zk157 (by decide +kernel : decode cX7_salt 0 = .ok (.aload_n 0, 1)))) <|
  zcons (a := (1, zi_il 1 2)) (zs_il_n (M := 157) (pc := 1) (zd_eq zk157 (by decide +kernel : decode cX7_salt 1 = .ok (.iload_n 1, 1)))) <|
  zcons (a := (2, zi_cv 155 1 7 5 1)) (zs_cv (M := 157) (pc := 2) (M' := 155) (k := 1) (kd := 1) (ci := 7) (q := (RX7, TX7, 26)) (zd_eq zk157 (by decide +kernel : decode cX7_salt 2 = .ok (.invokevirtual 171, 3))) zWd155 (zl_m zo157 zy155 zw_1006) (zl_i zy155 zw_1008) (zl_e zy155 zw_38) (by decide) rfl (by rw [zo155])) <|
  zcons (a := (5, zi_is 2 6)) (zs_is_n (M := 157) (pc := 5) (zd_eq zk157 (by decide +kernel : decode cX7_salt 5 = .ok (.istore_n 2, 1))) (by decide +kernel) (by decide +kernel)) <|
  zcons (a := (6, zi_il 2 7)) (zs_il_n (M := 157) (pc := 6) (zd_eq zk157 (by decide +kernel : decode cX7_salt 6 = .ok (.iload_n 2, 1)))) <|
  zcons (a := (7, zi_b1 (fun x => 0 ≤ x) 12 10)) (zs_ifge (M := 157) (pc := 7) (zd_eq zk157 (by decide +kernel : decode cX7_salt 7 = .ok (.ifCond .ge 5, 3))) (by decide)) <|
  zcons (a := (10, zi_il 2 11)) (zs_il_n (M := 157) (pc := 10) (zd_eq zk157 (by decide +kernel : decode cX7_salt 10 = .ok (.iload_n 2, 1)))) <|
  zcons (a := (11, zi_ri)) (zs_ri (M := 157) (pc := 11) (zd_eq zk157 (by decide +kernel : decode cX7_salt 11 = .ok (.ireturn, 1))) rfl) <|
  zcons (a := (12, zi_al 0 13)) (zs_al_n (M := 157) (pc := 12) (zd_eq zk157 (by decide +kernel : decode cX7_salt 12 = .ok (.aload_n 0, 1)))) <|
  zcons (a := (13, zi_gr 7 0 16)) (zs_gr (M := 157) (pc := 13) (n := 0) (ci := 7) (k := 0) (C := RX7) (T := TX7) (N := 26) (zd_eq zk157 (by decide +kernel : decode cX7_salt 13 = .ok (.getfield 7, 3))) rfl (by decide) (by decide) zin_7 (zl_f zo157 zw_796)) <|
  zcons (a := (16, zi_k (.int 5) 17)) (zs_iconst (M := 157) (pc := 16) (zd_eq zk157 (by decide +kernel : decode cX7_salt 16 = .ok (.iconst 5, 1))) (by decide)) <|
  zcons (a := (17, zi_il 1 18)) (zs_il_n (M := 157) (pc := 17) (zd_eq zk157 (by decide +kernel : decode cX7_salt 17 = .ok (.iload_n 1, 1)))) <|
  zcons (a := (18, zi_bin (· + ·) 19)) (zs_iadd (M := 157) (pc := 18) (zd_eq zk157 (by decide +kernel : decode cX7_salt 18 = .ok (.iadd, 1)))) <|
  zcons (a := (19, zi_dup2 20)) (zs_dup2 (M := 157) (pc := 19) (zd_eq zk157 (by decide +kernel : decode cX7_salt 19 = .ok (.dup2, 1)))) <|
  zcons (a := (20, zi_ald 0 21)) (zs_iald (M := 157) (pc := 20) (zd_eq zk157 (by decide +kernel : decode cX7_salt 20 = .ok (.iaload, 1)))) <|
  zcons (a := (21, zi_k (.int 2) 22)) (zs_iconst (M := 157) (pc := 21) (zd_eq zk157 (by decide +kernel : decode cX7_salt 21 = .ok (.iconst 2, 1))) (by decide)) <|
  zcons (a := (22, zi_div 23)) (zs_idiv (M := 157) (pc := 22) (zd_eq zk157 (by decide +kernel : decode cX7_salt 22 = .ok (.idiv, 1)))) <|
  zcons (a := (23, zi_ast 0 (fun x => x) 24)) (zs_iast (M := 157) (pc := 23) (zd_eq zk157 (by decide +kernel : decode cX7_salt 23 = .ok (.iastore, 1)))) <|
  zcons (a := (24, zi_al 0 25)) (zs_al_n (M := 157) (pc := 24) (zd_eq zk157 (by decide +kernel : decode cX7_salt 24 = .ok (.aload_n 0, 1)))) <|
  zcons (a := (25, zi_gr 7 0 28)) (zs_gr (M := 157) (pc := 25) (n := 0) (ci := 7) (k := 0) (C := RX7) (T := TX7) (N := 26) (zd_eq zk157 (by decide +kernel : decode cX7_salt 25 = .ok (.getfield 7, 3))) rfl (by decide) (by decide) zin_7 (zl_f zo157 zw_796)) <|
  zcons (a := (28, zi_k (.int 5) 29)) (zs_iconst (M := 157) (pc := 28) (zd_eq zk157 (by decide +kernel : decode cX7_salt 28 = .ok (.iconst 5, 1))) (by decide)) <|
  zcons (a := (29, zi_il 1 30)) (zs_il_n (M := 157) (pc := 29) (zd_eq zk157 (by decide +kernel : decode cX7_salt 29 = .ok (.iload_n 1, 1)))) <|
  zcons (a := (30, zi_bin (· + ·) 31)) (zs_iadd (M := 157) (pc := 30) (zd_eq zk157 (by decide +kernel : decode cX7_salt 30 = .ok (.iadd, 1)))) <|
  zcons (a := (31, zi_ald 0 32)) (zs_iald (M := 157) (pc := 31) (zd_eq zk157 (by decide +kernel : decode cX7_salt 31 = .ok (.iaload, 1)))) <| znil
theorem zS157_1 : ∀ q ∈ zm_c157_1, zm_Snd 157 q.1 q.2 :=
  zcons (a := (32, zi_ri)) (zs_ri (M := 157) (pc := 32) (zd_eq zk157 (by decide +kernel : decode cX7_salt 32 = .ok (.ireturn, 1))) rfl) <| znil
theorem zS157 : ∀ pc, zm_Snd 157 pc (zm_lk2 zm_c157 pc) := zlk2 (zcons2 zS157_0 (zcons2 zS157_1 (znil2)))
theorem zS158_0 : ∀ q ∈ zm_c158_0, zm_Snd 158 q.1 q.2 :=
  zcons (a := (0, zi_al 0 1)) (zs_al_n (M := 158) (pc := 0) (zd_eq zk158 (by decide +kernel : decode cX7_clear 0 = .ok (.aload_n 0, 1)))) <|
  zcons (a := (1, zi_il 1 2)) (zs_il_n (M := 158) (pc := 1) (zd_eq zk158 (by decide +kernel : decode cX7_clear 1 = .ok (.iload_n 1, 1)))) <|
  zcons (a := (2, zi_i2l 3)) (zs_i2l (M := 158) (pc := 2) (zd_eq zk158 (by decide +kernel : decode cX7_clear 2 = .ok (.i2l, 1)))) <|
  zcons (a := (3, zi_k (.long 0) 4)) (zs_lconst (M := 158) (pc := 3) (zd_eq zk158 (by decide +kernel : decode cX7_clear 3 = .ok (.lconst 0, 1))) (by decide)) <|
  zcons (a := (4, zi_al 0 5)) (zs_al_n (M := 158) (pc := 4) (zd_eq zk158 (by decide +kernel : decode cX7_clear 4 = .ok (.aload_n 0, 1)))) <|
  zcons (a := (5, zi_gr 7 0 8)) (zs_gr (M := 158) (pc := 5) (n := 0) (ci := 7) (k := 0) (C := RX7) (T := TX7) (N := 26) (zd_eq zk158 (by decide +kernel : decode cX7_clear 5 = .ok (.getfield 7, 3))) rfl (by decide) (by decide) zin_7 (zl_f zo158 zw_796)) <|
  zcons (a := (8, zi_k (.int 15) 10)) (zs_bipush (M := 158) (pc := 8) (zd_eq zk158 (by decide +kernel : decode cX7_clear 8 = .ok (.bipush 15, 2))) (by decide)) <|
  zcons (a := (10, zi_ald 0 11)) (zs_iald (M := 158) (pc := 10) (zd_eq zk158 (by decide +kernel : decode cX7_clear 10 = .ok (.iaload, 1)))) <|
  zcons (a := (11, zi_i2l 12)) (zs_i2l (M := 158) (pc := 11) (zd_eq zk158 (by decide +kernel : decode cX7_clear 11 = .ok (.i2l, 1)))) <|
  zcons (a := (12, zi_cs 123 3 15 1)) (zs_cs (M := 158) (pc := 12) (M' := 123) (k := 3) (kd := 1) (zd_eq zk158 (by decide +kernel : decode cX7_clear 12 = .ok (.invokestatic 49, 3))) zWd123 (zl_m zo158 zy123 zw_880) (zl_s zy123 zw_881)) <|
  zcons (a := (15, zi_k (.int 15) 17)) (zs_bipush (M := 158) (pc := 15) (zd_eq zk158 (by decide +kernel : decode cX7_clear 15 = .ok (.bipush 15, 2))) (by decide)) <|
  zcons (a := (17, zi_il 1 18)) (zs_il_n (M := 158) (pc := 17) (zd_eq zk158 (by decide +kernel : decode cX7_clear 17 = .ok (.iload_n 1, 1)))) <|
  zcons (a := (18, zi_k (.int 0) 19)) (zs_iconst (M := 158) (pc := 18) (zd_eq zk158 (by decide +kernel : decode cX7_clear 18 = .ok (.iconst 0, 1))) (by decide)) <|
  zcons (a := (19, zi_cv 150 4 7 22 1)) (zs_cv (M := 158) (pc := 19) (M' := 150) (k := 4) (kd := 1) (ci := 7) (q := (RX7, TX7, 26)) (zd_eq zk158 (by decide +kernel : decode cX7_clear 19 = .ok (.invokevirtual 156, 3))) zWd150 (zl_m zo158 zy150 zw_982) (zl_i zy150 zw_984) (zl_e zy150 zw_36) (by decide) rfl (by rw [zo150])) <|
  zcons (a := (22, zi_ri)) (zs_ri (M := 158) (pc := 22) (zd_eq zk158 (by decide +kernel : decode cX7_clear 22 = .ok (.ireturn, 1))) rfl) <| znil
theorem zS158 : ∀ pc, zm_Snd 158 pc (zm_lk2 zm_c158 pc) := zlk2 (zcons2 zS158_0 (znil2))
theorem zS159_0 : ∀ q ∈ zm_c159_0, zm_Snd 159 q.1 q.2 :=
  zcons (a := (0, zi_il 1 1)) (zs_il_n (M := 159) (pc := 0) (zd_eq zk159 (by decide +kernel : decode cX7_days 0 = .ok (.iload_n 1, 1)))) <|
  zcons (a := (1, zi_i2l 2)) (zs_i2l (M := 159) (pc := 1) (zd_eq zk159 (by decide +kernel : decode cX7_days 1 = .ok (.i2l, 1)))) <|
  zcons (a := (2, zi_k (.long 0) 3)) (zs_lconst (M := 159) (pc := 2) (zd_eq zk159 (by decide +kernel : decode cX7_days 2 = .ok (.lconst 0, 1))) (by decide)) <|
  zcons (a := (3, zi_k (.long 30) 6)) (zs_ldc2 (M := 159) (pc := 3) (zd_eq zk159 (by decide +kernel : decode cX7_days 3 = .ok (.ldc2_w 174, 3))) (zl_k2 zo159 zw_1022)) <|
  zcons (a := (6, zi_cs 123 3 9 1)) (zs_cs (M := 159) (pc := 6) (M' := 123) (k := 3) (kd := 1) (zd_eq zk159 (by decide +kernel : decode cX7_days 6 = .ok (.invokestatic 49, 3))) zWd123 (zl_m zo159 zy123 zw_880) (zl_s zy123 zw_881)) <|
  zcons (a := (9, zi_b1 (fun x => ¬ x = 0) 14 12)) (zs_ifne (M := 159) (pc := 9) (zd_eq zk159 (by decide +kernel : decode cX7_days 9 = .ok (.ifCond .ne 5, 3))) (by decide)) <|
  zcons (a := (12, zi_k (.int (-1)) 13)) (zs_iconst (M := 159) (pc := 12) (zd_eq zk159 (by decide +kernel : decode cX7_days 12 = .ok (.iconst (-1), 1))) (by decide)) <|
  zcons (a := (13, zi_ri)) (zs_ri (M := 159) (pc := 13) (zd_eq zk159 (by decide +kernel : decode cX7_days 13 = .ok (.ireturn, 1))) rfl) <|
  zcons (a := (14, zi_al 0 15)) (zs_al_n (M := 159) (pc := 14) (zd_eq zk159 (by decide +kernel : decode cX7_days 14 = .ok (.aload_n 0, 1)))) <|
  zcons (a := (15, zi_gr 7 0 18)) (zs_gr (M := 159) (pc := 15) (n := 0) (ci := 7) (k := 0) (C := RX7) (T := TX7) (N := 26) (zd_eq zk159 (by decide +kernel : decode cX7_days 15 = .ok (.getfield 7, 3))) rfl (by decide) (by decide) zin_7 (zl_f zo159 zw_796)) <|
  zcons (a := (18, zi_k (.int 30) 20)) (zs_bipush (M := 159) (pc := 18) (zd_eq zk159 (by decide +kernel : decode cX7_days 18 = .ok (.bipush 30, 2))) (by decide)) <|
  zcons (a := (20, zi_ald 0 21)) (zs_iald (M := 159) (pc := 20) (zd_eq zk159 (by decide +kernel : decode cX7_days 20 = .ok (.iaload, 1)))) <|
  zcons (a := (21, zi_il 1 22)) (zs_il_n (M := 159) (pc := 21) (zd_eq zk159 (by decide +kernel : decode cX7_days 21 = .ok (.iload_n 1, 1)))) <|
  zcons (a := (22, zi_bin (· + ·) 23)) (zs_iadd (M := 159) (pc := 22) (zd_eq zk159 (by decide +kernel : decode cX7_days 22 = .ok (.iadd, 1)))) <|
  zcons (a := (23, zi_k (.int 999) 26)) (zs_sipush (M := 159) (pc := 23) (zd_eq zk159 (by decide +kernel : decode cX7_days 23 = .ok (.sipush 999, 3))) (by decide)) <|
  zcons (a := (26, zi_b2 (fun x y => x ≤ y) 32 29)) (zs_icmple (M := 159) (pc := 26) (zd_eq zk159 (by decide +kernel : decode cX7_days 26 = .ok (.if_icmp .le 6, 3))) (by decide)) <|
  zcons (a := (29, zi_k (.int (-3)) 31)) (zs_bipush (M := 159) (pc := 29) (zd_eq zk159 (by decide +kernel : decode cX7_days 29 = .ok (.bipush (-3), 2))) (by decide)) <|
  zcons (a := (31, zi_ri)) (zs_ri (M := 159) (pc := 31) (zd_eq zk159 (by decide +kernel : decode cX7_days 31 = .ok (.ireturn, 1))) rfl) <|
  zcons (a := (32, zi_k (.int 0) 33)) (zs_iconst (M := 159) (pc := 32) (zd_eq zk159 (by decide +kernel : decode cX7_days 32 = .ok (.iconst 0, 1))) (by decide)) <|
  zcons (a := (33, zi_is 2 34)) (zs_is_n (M := 159) (pc := 33) (zd_eq zk159 (by decide +kernel : decode cX7_days 33 = .ok (.istore_n 2, 1))) (by decide +kernel) (by decide +kernel)) <|
  zcons (a := (34, zi_il 2 35)) (zs_il_n (M := 159) (pc := 34) (zd_eq zk159 (by decide +kernel : decode cX7_days 34 = .ok (.iload_n 2, 1)))) <|
  zcons (a := (35, zi_il 1 36)) (zs_il_n (M := 159) (pc := 35) (zd_eq zk159 (by decide +kernel : decode cX7_days 35 = .ok (.iload_n 1, 1)))) <|
  zcons (a := (36, zi_b2 (fun x y => y ≤ x) 50 39)) (zs_icmpge (M := 159) (pc := 36) (zd_eq zk159 (by decide +kernel : decode cX7_days 36 = .ok (.if_icmp .ge 14, 3))) (by decide)) <|
  zcons (a := (39, zi_al 0 40)) (zs_al_n (M := 159) (pc := 39) (zd_eq zk159 (by decide +kernel : decode cX7_days 39 = .ok (.aload_n 0, 1)))) <| znil
theorem zS159_1 : ∀ q ∈ zm_c159_1, zm_Snd 159 q.1 q.2 :=
  zcons (a := (40, zi_k (.int 0) 41)) (zs_iconst (M := 159) (pc := 40) (zd_eq zk159 (by decide +kernel : decode cX7_days 40 = .ok (.iconst 0, 1))) (by decide)) <|
  zcons (a := (41, zi_cv 141 1 7 44 0)) (zs_cv (M := 159) (pc := 41) (M' := 141) (k := 1) (kd := 0) (ci := 7) (q := (RX7, TX7, 26)) (zd_eq zk159 (by decide +kernel : decode cX7_days 41 = .ok (.invokevirtual 176, 3))) zWd141 (zl_m zo159 zy141 zw_1023) (zl_i zy141 zw_1025) (zl_e zy141 zw_39) (by decide) rfl (by rw [zo141])) <|
  zcons (a := (44, zi_inc 2 1 47)) (zs_inc (M := 159) (pc := 44) (zd_eq zk159 (by decide +kernel : decode cX7_days 44 = .ok (.iinc 2 1, 3))) (by decide) (by decide +kernel) (by decide +kernel)) <|
  zcons (a := (47, zi_go 34)) (zs_goto (M := 159) (pc := 47) (zd_eq zk159 (by decide +kernel : decode cX7_days 47 = .ok (.goto (-13), 3))) (by decide)) <|
  zcons (a := (50, zi_al 0 51)) (zs_al_n (M := 159) (pc := 50) (zd_eq zk159 (by decide +kernel : decode cX7_days 50 = .ok (.aload_n 0, 1)))) <|
  zcons (a := (51, zi_k (.int 0) 52)) (zs_iconst (M := 159) (pc := 51) (zd_eq zk159 (by decide +kernel : decode cX7_days 51 = .ok (.iconst 0, 1))) (by decide)) <|
  zcons (a := (52, zi_cv 142 1 7 55 1)) (zs_cv (M := 159) (pc := 52) (M' := 142) (k := 1) (kd := 1) (ci := 7) (q := (RX7, TX7, 26)) (zd_eq zk159 (by decide +kernel : decode cX7_days 52 = .ok (.invokevirtual 144, 3))) zWd142 (zl_m zo159 zy142 zw_941) (zl_i zy142 zw_943) (zl_e zy142 zw_29) (by decide) rfl (by rw [zo142])) <|
  zcons (a := (55, zi_cs 146 1 58 1)) (zs_cs (M := 159) (pc := 55) (M' := 146) (k := 1) (kd := 1) (zd_eq zk159 (by decide +kernel : decode cX7_days 55 = .ok (.invokestatic 179, 3))) zWd146 (zl_m zo159 zy146 zw_1031) (zl_s zy146 zw_1032)) <|
  zcons (a := (58, zi_ri)) (zs_ri (M := 159) (pc := 58) (zd_eq zk159 (by decide +kernel : decode cX7_days 58 = .ok (.ireturn, 1))) rfl) <| znil
theorem zS159 : ∀ pc, zm_Snd 159 pc (zm_lk2 zm_c159 pc) := zlk2 (zcons2 zS159_0 (zcons2 zS159_1 (znil2)))
theorem zS160_0 : ∀ q ∈ zm_c160_0, zm_Snd 160 q.1 q.2 :=
  zcons (a := (0, zi_k (.int 0) 1)) (zs_iconst (M := 160) (pc := 0) (zd_eq zk160 (by decide +kernel : decode cX7_copies 0 = .ok (.iconst 0, 1))) (by decide)) <|
  zcons (a := (1, zi_is 3 2)) (zs_is_n (M := 160) (pc := 1) (zd_eq zk160 (by decide +kernel : decode cX7_copies 1 = .ok (.istore_n 3, 1))) (by decide +kernel) (by decide +kernel)) <|
  zcons (a := (2, zi_il 3 3)) (zs_il_n (M := 160) (pc := 2) (zd_eq zk160 (by decide +kernel : decode cX7_copies 2 = .ok (.iload_n 3, 1)))) <|
  zcons (a := (3, zi_k (.int 31) 5)) (zs_bipush (M := 160) (pc := 3) (zd_eq zk160 (by decide +kernel : decode cX7_copies 3 = .ok (.bipush 31, 2))) (by decide)) <|
  zcons (a := (5, zi_b2 (fun x y => y ≤ x) 30 8)) (zs_icmpge (M := 160) (pc := 5) (zd_eq zk160 (by decide +kernel : decode cX7_copies 5 = .ok (.if_icmp .ge 25, 3))) (by decide)) <|
  zcons (a := (8, zi_al 0 9)) (zs_al_n (M := 160) (pc := 8) (zd_eq zk160 (by decide +kernel : decode cX7_copies 8 = .ok (.aload_n 0, 1)))) <|
  zcons (a := (9, zi_gr 7 0 12)) (zs_gr (M := 160) (pc := 9) (n := 0) (ci := 7) (k := 0) (C := RX7) (T := TX7) (N := 26) (zd_eq zk160 (by decide +kernel : decode cX7_copies 9 = .ok (.getfield 7, 3))) rfl (by decide) (by decide) zin_7 (zl_f zo160 zw_796)) <|
  zcons (a := (12, zi_il 2 13)) (zs_il_n (M := 160) (pc := 12) (zd_eq zk160 (by decide +kernel : decode cX7_copies 12 = .ok (.iload_n 2, 1)))) <|
  zcons (a := (13, zi_il 3 14)) (zs_il_n (M := 160) (pc := 13) (zd_eq zk160 (by decide +kernel : decode cX7_copies 13 = .ok (.iload_n 3, 1)))) <|
  zcons (a := (14, zi_bin (· + ·) 15)) (zs_iadd (M := 160) (pc := 14) (zd_eq zk160 (by decide +kernel : decode cX7_copies 14 = .ok (.iadd, 1)))) <|
  zcons (a := (15, zi_al 0 16)) (zs_al_n (M := 160) (pc := 15) (zd_eq zk160 (by decide +kernel : decode cX7_copies 15 = .ok (.aload_n 0, 1)))) <|
  zcons (a := (16, zi_gr 7 0 19)) (zs_gr (M := 160) (pc := 16) (n := 0) (ci := 7) (k := 0) (C := RX7) (T := TX7) (N := 26) (zd_eq zk160 (by decide +kernel : decode cX7_copies 16 = .ok (.getfield 7, 3))) rfl (by decide) (by decide) zin_7 (zl_f zo160 zw_796)) <|
  zcons (a := (19, zi_il 1 20)) (zs_il_n (M := 160) (pc := 19) (zd_eq zk160 (by decide +kernel : decode cX7_copies 19 = .ok (.iload_n 1, 1)))) <|
  zcons (a := (20, zi_il 3 21)) (zs_il_n (M := 160) (pc := 20) (zd_eq zk160 (by decide +kernel : decode cX7_copies 20 = .ok (.iload_n 3, 1)))) <|
  zcons (a := (21, zi_bin (· + ·) 22)) (zs_iadd (M := 160) (pc := 21) (zd_eq zk160 (by decide +kernel : decode cX7_copies 21 = .ok (.iadd, 1)))) <|
  zcons (a := (22, zi_ald 0 23)) (zs_iald (M := 160) (pc := 22) (zd_eq zk160 (by decide +kernel : decode cX7_copies 22 = .ok (.iaload, 1)))) <|
  zcons (a := (23, zi_ast 0 (fun x => x) 24)) (zs_iast (M := 160) (pc := 23) (zd_eq zk160 (by decide +kernel : decode cX7_copies 23 = .ok (.iastore, 1)))) <|
  zcons (a := (24, zi_inc 3 1 27)) (zs_inc (M := 160) (pc := 24) (zd_eq zk160 (by decide +kernel : decode cX7_copies 24 = .ok (.iinc 3 1, 3))) (by decide) (by decide +kernel) (by decide +kernel)) <|
  zcons (a := (27, zi_go 2)) (zs_goto (M := 160) (pc := 27) (zd_eq zk160 (by decide +kernel : decode cX7_copies 27 = .ok (.goto (-25), 3))) (by decide)) <|
  zcons (a := (30, zi_rv)) (zs_rv (M := 160) (pc := 30) (zd_eq zk160 (by decide +kernel : decode cX7_copies 30 = .ok (.return_, 1))) rfl) <| znil
theorem zS160 : ∀ pc, zm_Snd 160 pc (zm_lk2 zm_c160 pc) := zlk2 (zcons2 zS160_0 (znil2))
theorem zS161_0 : ∀ q ∈ zm_c161_0, zm_Snd 161 q.1 q.2 :=
  zcons (a := (0, zi_al 0 1)) (zs_al_n (M := 161) (pc := 0) (zd_eq zk161 (by decide +kernel : decode cX7_daysGo 0 = .ok (.aload_n 0, 1)))) <|
  zcons (a := (1, zi_il 1 2)) (zs_il_n (M := 161) (pc := 1) (zd_eq zk161 (by decide +kernel : decode cX7_daysGo 1 = .ok (.iload_n 1, 1)))) <|
  zcons (a := (2, zi_k (.int 124) 4)) (zs_bipush (M := 161) (pc := 2) (zd_eq zk161 (by decide +kernel : decode cX7_daysGo 2 = .ok (.bipush 124, 2))) (by decide)) <|
  zcons (a := (4, zi_cv 160 2 7 7 0)) (zs_cv (M := 161) (pc := 4) (M' := 160) (k := 2) (kd := 0) (ci := 7) (q := (RX7, TX7, 26)) (zd_eq zk161 (by decide +kernel : decode cX7_daysGo 4 = .ok (.invokevirtual 182, 3))) zWd160 (zl_m zo161 zy160 zw_1043) (zl_i zy160 zw_1045) (zl_e zy160 zw_42) (by decide) rfl (by rw [zo160])) <|
  zcons (a := (7, zi_al 0 8)) (zs_al_n (M := 161) (pc := 7) (zd_eq zk161 (by decide +kernel : decode cX7_daysGo 7 = .ok (.aload_n 0, 1)))) <|
  zcons (a := (8, zi_k (.int 0) 9)) (zs_iconst (M := 161) (pc := 8) (zd_eq zk161 (by decide +kernel : decode cX7_daysGo 8 = .ok (.iconst 0, 1))) (by decide)) <|
  zcons (a := (9, zi_pf 7 14 12)) (zs_pf (M := 161) (pc := 9) (ci := 7) (k := 14) (C := RX7) (T := TX7) (N := 26) (ty0 := tyX7) (zd_eq zk161 (by decide +kernel : decode cX7_daysGo 9 = .ok (.putfield 186, 3))) rfl (by decide) (by decide) zin_7 (zl_f zo161 zw_810) tyX7_ok nmX7 rfl (tyX7_ok 14 (by decide))) <|
  zcons (a := (12, zi_al 0 13)) (zs_al_n (M := 161) (pc := 12) (zd_eq zk161 (by decide +kernel : decode cX7_daysGo 12 = .ok (.aload_n 0, 1)))) <|
  zcons (a := (13, zi_k (.int 0) 14)) (zs_iconst (M := 161) (pc := 13) (zd_eq zk161 (by decide +kernel : decode cX7_daysGo 13 = .ok (.iconst 0, 1))) (by decide)) <|
  zcons (a := (14, zi_pf 7 15 17)) (zs_pf (M := 161) (pc := 14) (ci := 7) (k := 15) (C := RX7) (T := TX7) (N := 26) (ty0 := tyX7) (zd_eq zk161 (by decide +kernel : decode cX7_daysGo 14 = .ok (.putfield 189, 3))) rfl (by decide) (by decide) zin_7 (zl_f zo161 zw_811) tyX7_ok nmX7 rfl (tyX7_ok 15 (by decide))) <|
  zcons (a := (17, zi_al 0 18)) (zs_al_n (M := 161) (pc := 17) (zd_eq zk161 (by decide +kernel : decode cX7_daysGo 17 = .ok (.aload_n 0, 1)))) <|
  zcons (a := (18, zi_k (.int 0) 19)) (zs_iconst (M := 161) (pc := 18) (zd_eq zk161 (by decide +kernel : decode cX7_daysGo 18 = .ok (.iconst 0, 1))) (by decide)) <|
  zcons (a := (19, zi_pf 7 16 22)) (zs_pf (M := 161) (pc := 19) (ci := 7) (k := 16) (C := RX7) (T := TX7) (N := 26) (ty0 := tyX7) (zd_eq zk161 (by decide +kernel : decode cX7_daysGo 19 = .ok (.putfield 192, 3))) rfl (by decide) (by decide) zin_7 (zl_f zo161 zw_812) tyX7_ok nmX7 rfl (tyX7_ok 16 (by decide))) <|
  zcons (a := (22, zi_k (.int 0) 23)) (zs_iconst (M := 161) (pc := 22) (zd_eq zk161 (by decide +kernel : decode cX7_daysGo 22 = .ok (.iconst 0, 1))) (by decide)) <|
  zcons (a := (23, zi_is 3 24)) (zs_is_n (M := 161) (pc := 23) (zd_eq zk161 (by decide +kernel : decode cX7_daysGo 23 = .ok (.istore_n 3, 1))) (by decide +kernel) (by decide +kernel)) <|
  zcons (a := (24, zi_il 3 25)) (zs_il_n (M := 161) (pc := 24) (zd_eq zk161 (by decide +kernel : decode cX7_daysGo 24 = .ok (.iload_n 3, 1)))) <|
  zcons (a := (25, zi_k (.int 5) 26)) (zs_iconst (M := 161) (pc := 25) (zd_eq zk161 (by decide +kernel : decode cX7_daysGo 25 = .ok (.iconst 5, 1))) (by decide)) <|
  zcons (a := (26, zi_b2 (fun x y => y ≤ x) 42 29)) (zs_icmpge (M := 161) (pc := 26) (zd_eq zk161 (by decide +kernel : decode cX7_daysGo 26 = .ok (.if_icmp .ge 16, 3))) (by decide)) <|
  zcons (a := (29, zi_al 0 30)) (zs_al_n (M := 161) (pc := 29) (zd_eq zk161 (by decide +kernel : decode cX7_daysGo 29 = .ok (.aload_n 0, 1)))) <|
  zcons (a := (30, zi_gr 7 17 33)) (zs_gr (M := 161) (pc := 30) (n := 0) (ci := 7) (k := 17) (C := RX7) (T := TX7) (N := 26) (zd_eq zk161 (by decide +kernel : decode cX7_daysGo 30 = .ok (.getfield 25, 3))) rfl (by decide) (by decide) zin_7 (zl_f zo161 zw_813)) <|
  zcons (a := (33, zi_il 3 34)) (zs_il_n (M := 161) (pc := 33) (zd_eq zk161 (by decide +kernel : decode cX7_daysGo 33 = .ok (.iload_n 3, 1)))) <|
  zcons (a := (34, zi_k (.int 0) 35)) (zs_iconst (M := 161) (pc := 34) (zd_eq zk161 (by decide +kernel : decode cX7_daysGo 34 = .ok (.iconst 0, 1))) (by decide)) <|
  zcons (a := (35, zi_ast 0 (fun x => x) 36)) (zs_iast (M := 161) (pc := 35) (zd_eq zk161 (by decide +kernel : decode cX7_daysGo 35 = .ok (.iastore, 1)))) <|
  zcons (a := (36, zi_inc 3 1 39)) (zs_inc (M := 161) (pc := 36) (zd_eq zk161 (by decide +kernel : decode cX7_daysGo 36 = .ok (.iinc 3 1, 3))) (by decide) (by decide +kernel) (by decide +kernel)) <| znil
theorem zS161_1 : ∀ q ∈ zm_c161_1, zm_Snd 161 q.1 q.2 :=
  zcons (a := (39, zi_go 24)) (zs_goto (M := 161) (pc := 39) (zd_eq zk161 (by decide +kernel : decode cX7_daysGo 39 = .ok (.goto (-15), 3))) (by decide)) <|
  zcons (a := (42, zi_k (.int 0) 43)) (zs_iconst (M := 161) (pc := 42) (zd_eq zk161 (by decide +kernel : decode cX7_daysGo 42 = .ok (.iconst 0, 1))) (by decide)) <|
  zcons (a := (43, zi_is 3 44)) (zs_is_n (M := 161) (pc := 43) (zd_eq zk161 (by decide +kernel : decode cX7_daysGo 43 = .ok (.istore_n 3, 1))) (by decide +kernel) (by decide +kernel)) <|
  zcons (a := (44, zi_il 3 45)) (zs_il_n (M := 161) (pc := 44) (zd_eq zk161 (by decide +kernel : decode cX7_daysGo 44 = .ok (.iload_n 3, 1)))) <|
  zcons (a := (45, zi_il 2 46)) (zs_il_n (M := 161) (pc := 45) (zd_eq zk161 (by decide +kernel : decode cX7_daysGo 45 = .ok (.iload_n 2, 1)))) <|
  zcons (a := (46, zi_b2 (fun x y => y ≤ x) 138 49)) (zs_icmpge (M := 161) (pc := 46) (zd_eq zk161 (by decide +kernel : decode cX7_daysGo 46 = .ok (.if_icmp .ge 92, 3))) (by decide)) <|
  zcons (a := (49, zi_al 0 50)) (zs_al_n (M := 161) (pc := 49) (zd_eq zk161 (by decide +kernel : decode cX7_daysGo 49 = .ok (.aload_n 0, 1)))) <|
  zcons (a := (50, zi_k (.int 124) 52)) (zs_bipush (M := 161) (pc := 50) (zd_eq zk161 (by decide +kernel : decode cX7_daysGo 50 = .ok (.bipush 124, 2))) (by decide)) <|
  zcons (a := (52, zi_cv 143 1 7 55 1)) (zs_cv (M := 161) (pc := 52) (M' := 143) (k := 1) (kd := 1) (ci := 7) (q := (RX7, TX7, 26)) (zd_eq zk161 (by decide +kernel : decode cX7_daysGo 52 = .ok (.invokevirtual 138, 3))) zWd143 (zl_m zo161 zy143 zw_933) (zl_i zy143 zw_935) (zl_e zy143 zw_27) (by decide) rfl (by rw [zo143])) <|
  zcons (a := (55, zi_is 4 57)) (zs_is_w (M := 161) (pc := 55) (zd_eq zk161 (by decide +kernel : decode cX7_daysGo 55 = .ok (.istore 4, 2))) (by decide +kernel) (by decide +kernel)) <|
  zcons (a := (57, zi_il 4 59)) (zs_il_w (M := 161) (pc := 57) (zd_eq zk161 (by decide +kernel : decode cX7_daysGo 57 = .ok (.iload 4, 2)))) <|
  zcons (a := (59, zi_k (.int (-4)) 61)) (zs_bipush (M := 161) (pc := 59) (zd_eq zk161 (by decide +kernel : decode cX7_daysGo 59 = .ok (.bipush (-4), 2))) (by decide)) <|
  zcons (a := (61, zi_b2 (fun x y => ¬ x = y) 77 64)) (zs_icmpne (M := 161) (pc := 61) (zd_eq zk161 (by decide +kernel : decode cX7_daysGo 61 = .ok (.if_icmp .ne 16, 3))) (by decide)) <|
  zcons (a := (64, zi_al 0 65)) (zs_al_n (M := 161) (pc := 64) (zd_eq zk161 (by decide +kernel : decode cX7_daysGo 64 = .ok (.aload_n 0, 1)))) <|
  zcons (a := (65, zi_dup 66)) (zs_dup (M := 161) (pc := 65) (zd_eq zk161 (by decide +kernel : decode cX7_daysGo 65 = .ok (.dup, 1)))) <|
  zcons (a := (66, zi_gi 7 14 69)) (zs_gi (M := 161) (pc := 66) (n := 0) (ci := 7) (k := 14) (C := RX7) (T := TX7) (N := 26) (zd_eq zk161 (by decide +kernel : decode cX7_daysGo 66 = .ok (.getfield 186, 3))) rfl (by decide) (by decide) zin_7 (zl_f zo161 zw_810)) <|
  zcons (a := (69, zi_k (.int 1) 70)) (zs_iconst (M := 161) (pc := 69) (zd_eq zk161 (by decide +kernel : decode cX7_daysGo 69 = .ok (.iconst 1, 1))) (by decide)) <|
  zcons (a := (70, zi_bin (· + ·) 71)) (zs_iadd (M := 161) (pc := 70) (zd_eq zk161 (by decide +kernel : decode cX7_daysGo 70 = .ok (.iadd, 1)))) <|
  zcons (a := (71, zi_pf 7 14 74)) (zs_pf (M := 161) (pc := 71) (ci := 7) (k := 14) (C := RX7) (T := TX7) (N := 26) (ty0 := tyX7) (zd_eq zk161 (by decide +kernel : decode cX7_daysGo 71 = .ok (.putfield 186, 3))) rfl (by decide) (by decide) zin_7 (zl_f zo161 zw_810) tyX7_ok nmX7 rfl (tyX7_ok 14 (by decide))) <|
  zcons (a := (74, zi_go 101)) (zs_goto (M := 161) (pc := 74) (zd_eq zk161 (by decide +kernel : decode cX7_daysGo 74 = .ok (.goto 27, 3))) (by decide)) <|
  zcons (a := (77, zi_al 0 78)) (zs_al_n (M := 161) (pc := 77) (zd_eq zk161 (by decide +kernel : decode cX7_daysGo 77 = .ok (.aload_n 0, 1)))) <|
  zcons (a := (78, zi_dup 79)) (zs_dup (M := 161) (pc := 78) (zd_eq zk161 (by decide +kernel : decode cX7_daysGo 78 = .ok (.dup, 1)))) <|
  zcons (a := (79, zi_gi 7 15 82)) (zs_gi (M := 161) (pc := 79) (n := 0) (ci := 7) (k := 15) (C := RX7) (T := TX7) (N := 26) (zd_eq zk161 (by decide +kernel : decode cX7_daysGo 79 = .ok (.getfield 189, 3))) rfl (by decide) (by decide) zin_7 (zl_f zo161 zw_811)) <|
  zcons (a := (82, zi_k (.int 1) 83)) (zs_iconst (M := 161) (pc := 82) (zd_eq zk161 (by decide +kernel : decode cX7_daysGo 82 = .ok (.iconst 1, 1))) (by decide)) <| znil
theorem zS161_2 : ∀ q ∈ zm_c161_2, zm_Snd 161 q.1 q.2 :=
  zcons (a := (83, zi_il 4 85)) (zs_il_w (M := 161) (pc := 83) (zd_eq zk161 (by decide +kernel : decode cX7_daysGo 83 = .ok (.iload 4, 2)))) <|
  zcons (a := (85, zi_bin (fun x y => x <<< (y &&& 31)) 86)) (zs_ishl (M := 161) (pc := 85) (zd_eq zk161 (by decide +kernel : decode cX7_daysGo 85 = .ok (.ishl, 1)))) <|
  zcons (a := (86, zi_bin (· ||| ·) 87)) (zs_ior (M := 161) (pc := 86) (zd_eq zk161 (by decide +kernel : decode cX7_daysGo 86 = .ok (.ior, 1)))) <|
  zcons (a := (87, zi_pf 7 15 90)) (zs_pf (M := 161) (pc := 87) (ci := 7) (k := 15) (C := RX7) (T := TX7) (N := 26) (ty0 := tyX7) (zd_eq zk161 (by decide +kernel : decode cX7_daysGo 87 = .ok (.putfield 189, 3))) rfl (by decide) (by decide) zin_7 (zl_f zo161 zw_811) tyX7_ok nmX7 rfl (tyX7_ok 15 (by decide))) <|
  zcons (a := (90, zi_al 0 91)) (zs_al_n (M := 161) (pc := 90) (zd_eq zk161 (by decide +kernel : decode cX7_daysGo 90 = .ok (.aload_n 0, 1)))) <|
  zcons (a := (91, zi_gr 7 17 94)) (zs_gr (M := 161) (pc := 91) (n := 0) (ci := 7) (k := 17) (C := RX7) (T := TX7) (N := 26) (zd_eq zk161 (by decide +kernel : decode cX7_daysGo 91 = .ok (.getfield 25, 3))) rfl (by decide) (by decide) zin_7 (zl_f zo161 zw_813)) <|
  zcons (a := (94, zi_il 4 96)) (zs_il_w (M := 161) (pc := 94) (zd_eq zk161 (by decide +kernel : decode cX7_daysGo 94 = .ok (.iload 4, 2)))) <|
  zcons (a := (96, zi_dup2 97)) (zs_dup2 (M := 161) (pc := 96) (zd_eq zk161 (by decide +kernel : decode cX7_daysGo 96 = .ok (.dup2, 1)))) <|
  zcons (a := (97, zi_ald 0 98)) (zs_iald (M := 161) (pc := 97) (zd_eq zk161 (by decide +kernel : decode cX7_daysGo 97 = .ok (.iaload, 1)))) <|
  zcons (a := (98, zi_k (.int 1) 99)) (zs_iconst (M := 161) (pc := 98) (zd_eq zk161 (by decide +kernel : decode cX7_daysGo 98 = .ok (.iconst 1, 1))) (by decide)) <|
  zcons (a := (99, zi_bin (· + ·) 100)) (zs_iadd (M := 161) (pc := 99) (zd_eq zk161 (by decide +kernel : decode cX7_daysGo 99 = .ok (.iadd, 1)))) <|
  zcons (a := (100, zi_ast 0 (fun x => x) 101)) (zs_iast (M := 161) (pc := 100) (zd_eq zk161 (by decide +kernel : decode cX7_daysGo 100 = .ok (.iastore, 1)))) <|
  zcons (a := (101, zi_al 0 102)) (zs_al_n (M := 161) (pc := 101) (zd_eq zk161 (by decide +kernel : decode cX7_daysGo 101 = .ok (.aload_n 0, 1)))) <|
  zcons (a := (102, zi_k (.int 124) 104)) (zs_bipush (M := 161) (pc := 102) (zd_eq zk161 (by decide +kernel : decode cX7_daysGo 102 = .ok (.bipush 124, 2))) (by decide)) <|
  zcons (a := (104, zi_cv 141 1 7 107 0)) (zs_cv (M := 161) (pc := 104) (M' := 141) (k := 1) (kd := 0) (ci := 7) (q := (RX7, TX7, 26)) (zd_eq zk161 (by decide +kernel : decode cX7_daysGo 104 = .ok (.invokevirtual 176, 3))) zWd141 (zl_m zo161 zy141 zw_1023) (zl_i zy141 zw_1025) (zl_e zy141 zw_39) (by decide) rfl (by rw [zo141])) <|
  zcons (a := (107, zi_al 0 108)) (zs_al_n (M := 161) (pc := 107) (zd_eq zk161 (by decide +kernel : decode cX7_daysGo 107 = .ok (.aload_n 0, 1)))) <|
  zcons (a := (108, zi_dup 109)) (zs_dup (M := 161) (pc := 108) (zd_eq zk161 (by decide +kernel : decode cX7_daysGo 108 = .ok (.dup, 1)))) <|
  zcons (a := (109, zi_gi 7 16 112)) (zs_gi (M := 161) (pc := 109) (n := 0) (ci := 7) (k := 16) (C := RX7) (T := TX7) (N := 26) (zd_eq zk161 (by decide +kernel : decode cX7_daysGo 109 = .ok (.getfield 192, 3))) rfl (by decide) (by decide) zin_7 (zl_f zo161 zw_812)) <|
  zcons (a := (112, zi_al 0 113)) (zs_al_n (M := 161) (pc := 112) (zd_eq zk161 (by decide +kernel : decode cX7_daysGo 112 = .ok (.aload_n 0, 1)))) <|
  zcons (a := (113, zi_k (.int 124) 115)) (zs_bipush (M := 161) (pc := 113) (zd_eq zk161 (by decide +kernel : decode cX7_daysGo 113 = .ok (.bipush 124, 2))) (by decide)) <|
  zcons (a := (115, zi_cv 143 1 7 118 1)) (zs_cv (M := 161) (pc := 115) (M' := 143) (k := 1) (kd := 1) (ci := 7) (q := (RX7, TX7, 26)) (zd_eq zk161 (by decide +kernel : decode cX7_daysGo 115 = .ok (.invokevirtual 138, 3))) zWd143 (zl_m zo161 zy143 zw_933) (zl_i zy143 zw_935) (zl_e zy143 zw_27) (by decide) rfl (by rw [zo143])) <|
  zcons (a := (118, zi_il 4 120)) (zs_il_w (M := 161) (pc := 118) (zd_eq zk161 (by decide +kernel : decode cX7_daysGo 118 = .ok (.iload 4, 2)))) <|
  zcons (a := (120, zi_b2 (fun x y => ¬ x = y) 127 123)) (zs_icmpne (M := 161) (pc := 120) (zd_eq zk161 (by decide +kernel : decode cX7_daysGo 120 = .ok (.if_icmp .ne 7, 3))) (by decide)) <|
  zcons (a := (123, zi_k (.int 0) 124)) (zs_iconst (M := 161) (pc := 123) (zd_eq zk161 (by decide +kernel : decode cX7_daysGo 123 = .ok (.iconst 0, 1))) (by decide)) <| znil
theorem zS161_3 : ∀ q ∈ zm_c161_3, zm_Snd 161 q.1 q.2 :=
  zcons (a := (124, zi_go 128)) (zs_goto (M := 161) (pc := 124) (zd_eq zk161 (by decide +kernel : decode cX7_daysGo 124 = .ok (.goto 4, 3))) (by decide)) <|
  zcons (a := (127, zi_k (.int 1) 128)) (zs_iconst (M := 161) (pc := 127) (zd_eq zk161 (by decide +kernel : decode cX7_daysGo 127 = .ok (.iconst 1, 1))) (by decide)) <|
  zcons (a := (128, zi_bin (· + ·) 129)) (zs_iadd (M := 161) (pc := 128) (zd_eq zk161 (by decide +kernel : decode cX7_daysGo 128 = .ok (.iadd, 1)))) <|
  zcons (a := (129, zi_pf 7 16 132)) (zs_pf (M := 161) (pc := 129) (ci := 7) (k := 16) (C := RX7) (T := TX7) (N := 26) (ty0 := tyX7) (zd_eq zk161 (by decide +kernel : decode cX7_daysGo 129 = .ok (.putfield 192, 3))) rfl (by decide) (by decide) zin_7 (zl_f zo161 zw_812) tyX7_ok nmX7 rfl (tyX7_ok 16 (by decide))) <|
  zcons (a := (132, zi_inc 3 1 135)) (zs_inc (M := 161) (pc := 132) (zd_eq zk161 (by decide +kernel : decode cX7_daysGo 132 = .ok (.iinc 3 1, 3))) (by decide) (by decide +kernel) (by decide +kernel)) <|
  zcons (a := (135, zi_go 44)) (zs_goto (M := 161) (pc := 135) (zd_eq zk161 (by decide +kernel : decode cX7_daysGo 135 = .ok (.goto (-91), 3))) (by decide)) <|
  zcons (a := (138, zi_rv)) (zs_rv (M := 161) (pc := 138) (zd_eq zk161 (by decide +kernel : decode cX7_daysGo 138 = .ok (.return_, 1))) rfl) <| znil
theorem zS161 : ∀ pc, zm_Snd 161 pc (zm_lk2 zm_c161 pc) := zlk2 (zcons2 zS161_0 (zcons2 zS161_1 (zcons2 zS161_2 (zcons2 zS161_3 (znil2)))))
theorem zS162_0 : ∀ q ∈ zm_c162_0, zm_Snd 162 q.1 q.2 :=
  zcons (a := (0, zi_il 1 1)) (zs_il_n (M := 162) (pc := 0) (zd_eq zk162 (by decide +kernel : decode cX7_runs 0 = .ok (.iload_n 1, 1)))) <|
  zcons (a := (1, zi_i2l 2)) (zs_i2l (M := 162) (pc := 1) (zd_eq zk162 (by decide +kernel : decode cX7_runs 1 = .ok (.i2l, 1)))) <|
  zcons (a := (2, zi_k (.long 0) 3)) (zs_lconst (M := 162) (pc := 2) (zd_eq zk162 (by decide +kernel : decode cX7_runs 2 = .ok (.lconst 0, 1))) (by decide)) <|
  zcons (a := (3, zi_k (.long 60) 6)) (zs_ldc2 (M := 162) (pc := 3) (zd_eq zk162 (by decide +kernel : decode cX7_runs 3 = .ok (.ldc2_w 195, 3))) (zl_k2 zo162 zw_1038)) <|
  zcons (a := (6, zi_cs 123 3 9 1)) (zs_cs (M := 162) (pc := 6) (M' := 123) (k := 3) (kd := 1) (zd_eq zk162 (by decide +kernel : decode cX7_runs 6 = .ok (.invokestatic 49, 3))) zWd123 (zl_m zo162 zy123 zw_880) (zl_s zy123 zw_881)) <|
  zcons (a := (9, zi_b1 (fun x => x = 0) 24 12)) (zs_ifeq (M := 162) (pc := 9) (zd_eq zk162 (by decide +kernel : decode cX7_runs 9 = .ok (.ifCond .eq 15, 3))) (by decide)) <|
  zcons (a := (12, zi_il 2 13)) (zs_il_n (M := 162) (pc := 12) (zd_eq zk162 (by decide +kernel : decode cX7_runs 12 = .ok (.iload_n 2, 1)))) <|
  zcons (a := (13, zi_i2l 14)) (zs_i2l (M := 162) (pc := 13) (zd_eq zk162 (by decide +kernel : decode cX7_runs 13 = .ok (.i2l, 1)))) <|
  zcons (a := (14, zi_k (.long 0) 15)) (zs_lconst (M := 162) (pc := 14) (zd_eq zk162 (by decide +kernel : decode cX7_runs 14 = .ok (.lconst 0, 1))) (by decide)) <|
  zcons (a := (15, zi_k (.long 4) 18)) (zs_ldc2 (M := 162) (pc := 15) (zd_eq zk162 (by decide +kernel : decode cX7_runs 15 = .ok (.ldc2_w 107, 3))) (zl_k2 zo162 zw_915)) <|
  zcons (a := (18, zi_cs 123 3 21 1)) (zs_cs (M := 162) (pc := 18) (M' := 123) (k := 3) (kd := 1) (zd_eq zk162 (by decide +kernel : decode cX7_runs 18 = .ok (.invokestatic 49, 3))) zWd123 (zl_m zo162 zy123 zw_880) (zl_s zy123 zw_881)) <|
  zcons (a := (21, zi_b1 (fun x => ¬ x = 0) 26 24)) (zs_ifne (M := 162) (pc := 21) (zd_eq zk162 (by decide +kernel : decode cX7_runs 21 = .ok (.ifCond .ne 5, 3))) (by decide)) <|
  zcons (a := (24, zi_k (.int (-1)) 25)) (zs_iconst (M := 162) (pc := 24) (zd_eq zk162 (by decide +kernel : decode cX7_runs 24 = .ok (.iconst (-1), 1))) (by decide)) <|
  zcons (a := (25, zi_ri)) (zs_ri (M := 162) (pc := 25) (zd_eq zk162 (by decide +kernel : decode cX7_runs 25 = .ok (.ireturn, 1))) rfl) <|
  zcons (a := (26, zi_al 0 27)) (zs_al_n (M := 162) (pc := 26) (zd_eq zk162 (by decide +kernel : decode cX7_runs 26 = .ok (.aload_n 0, 1)))) <|
  zcons (a := (27, zi_k (.int 0) 28)) (zs_iconst (M := 162) (pc := 27) (zd_eq zk162 (by decide +kernel : decode cX7_runs 27 = .ok (.iconst 0, 1))) (by decide)) <|
  zcons (a := (28, zi_il 1 29)) (zs_il_n (M := 162) (pc := 28) (zd_eq zk162 (by decide +kernel : decode cX7_runs 28 = .ok (.iload_n 1, 1)))) <|
  zcons (a := (29, zi_cv 161 2 7 32 0)) (zs_cv (M := 162) (pc := 29) (M' := 161) (k := 2) (kd := 0) (ci := 7) (q := (RX7, TX7, 26)) (zd_eq zk162 (by decide +kernel : decode cX7_runs 29 = .ok (.invokevirtual 197, 3))) zWd161 (zl_m zo162 zy161 zw_1039) (zl_i zy161 zw_1041) (zl_e zy161 zw_41) (by decide) rfl (by rw [zo161])) <|
  zcons (a := (32, zi_il 2 33)) (zs_il_n (M := 162) (pc := 32) (zd_eq zk162 (by decide +kernel : decode cX7_runs 32 = .ok (.iload_n 2, 1)))) <|
  zcons (a := (33, zi_b1 (fun x => ¬ x = 0) 45 36)) (zs_ifne (M := 162) (pc := 33) (zd_eq zk162 (by decide +kernel : decode cX7_runs 33 = .ok (.ifCond .ne 12, 3))) (by decide)) <|
  zcons (a := (36, zi_al 0 37)) (zs_al_n (M := 162) (pc := 36) (zd_eq zk162 (by decide +kernel : decode cX7_runs 36 = .ok (.aload_n 0, 1)))) <|
  zcons (a := (37, zi_k (.int 124) 39)) (zs_bipush (M := 162) (pc := 37) (zd_eq zk162 (by decide +kernel : decode cX7_runs 37 = .ok (.bipush 124, 2))) (by decide)) <|
  zcons (a := (39, zi_cv 142 1 7 42 1)) (zs_cv (M := 162) (pc := 39) (M' := 142) (k := 1) (kd := 1) (ci := 7) (q := (RX7, TX7, 26)) (zd_eq zk162 (by decide +kernel : decode cX7_runs 39 = .ok (.invokevirtual 144, 3))) zWd142 (zl_m zo162 zy142 zw_941) (zl_i zy142 zw_943) (zl_e zy142 zw_29) (by decide) rfl (by rw [zo142])) <|
  zcons (a := (42, zi_go 89)) (zs_goto (M := 162) (pc := 42) (zd_eq zk162 (by decide +kernel : decode cX7_runs 42 = .ok (.goto 47, 3))) (by decide)) <| znil
theorem zS162_1 : ∀ q ∈ zm_c162_1, zm_Snd 162 q.1 q.2 :=
  zcons (a := (45, zi_il 2 46)) (zs_il_n (M := 162) (pc := 45) (zd_eq zk162 (by decide +kernel : decode cX7_runs 45 = .ok (.iload_n 2, 1)))) <|
  zcons (a := (46, zi_k (.int 1) 47)) (zs_iconst (M := 162) (pc := 46) (zd_eq zk162 (by decide +kernel : decode cX7_runs 46 = .ok (.iconst 1, 1))) (by decide)) <|
  zcons (a := (47, zi_b2 (fun x y => ¬ x = y) 59 50)) (zs_icmpne (M := 162) (pc := 47) (zd_eq zk162 (by decide +kernel : decode cX7_runs 47 = .ok (.if_icmp .ne 12, 3))) (by decide)) <|
  zcons (a := (50, zi_al 0 51)) (zs_al_n (M := 162) (pc := 50) (zd_eq zk162 (by decide +kernel : decode cX7_runs 50 = .ok (.aload_n 0, 1)))) <|
  zcons (a := (51, zi_k (.int 124) 53)) (zs_bipush (M := 162) (pc := 51) (zd_eq zk162 (by decide +kernel : decode cX7_runs 51 = .ok (.bipush 124, 2))) (by decide)) <|
  zcons (a := (53, zi_cv 143 1 7 56 1)) (zs_cv (M := 162) (pc := 53) (M' := 143) (k := 1) (kd := 1) (ci := 7) (q := (RX7, TX7, 26)) (zd_eq zk162 (by decide +kernel : decode cX7_runs 53 = .ok (.invokevirtual 138, 3))) zWd143 (zl_m zo162 zy143 zw_933) (zl_i zy143 zw_935) (zl_e zy143 zw_27) (by decide) rfl (by rw [zo143])) <|
  zcons (a := (56, zi_go 89)) (zs_goto (M := 162) (pc := 56) (zd_eq zk162 (by decide +kernel : decode cX7_runs 56 = .ok (.goto 33, 3))) (by decide)) <|
  zcons (a := (59, zi_il 2 60)) (zs_il_n (M := 162) (pc := 59) (zd_eq zk162 (by decide +kernel : decode cX7_runs 59 = .ok (.iload_n 2, 1)))) <|
  zcons (a := (60, zi_k (.int 2) 61)) (zs_iconst (M := 162) (pc := 60) (zd_eq zk162 (by decide +kernel : decode cX7_runs 60 = .ok (.iconst 2, 1))) (by decide)) <|
  zcons (a := (61, zi_b2 (fun x y => ¬ x = y) 71 64)) (zs_icmpne (M := 162) (pc := 61) (zd_eq zk162 (by decide +kernel : decode cX7_runs 61 = .ok (.if_icmp .ne 10, 3))) (by decide)) <|
  zcons (a := (64, zi_al 0 65)) (zs_al_n (M := 162) (pc := 64) (zd_eq zk162 (by decide +kernel : decode cX7_runs 64 = .ok (.aload_n 0, 1)))) <|
  zcons (a := (65, zi_gi 7 14 68)) (zs_gi (M := 162) (pc := 65) (n := 0) (ci := 7) (k := 14) (C := RX7) (T := TX7) (N := 26) (zd_eq zk162 (by decide +kernel : decode cX7_runs 65 = .ok (.getfield 186, 3))) rfl (by decide) (by decide) zin_7 (zl_f zo162 zw_810)) <|
  zcons (a := (68, zi_go 89)) (zs_goto (M := 162) (pc := 68) (zd_eq zk162 (by decide +kernel : decode cX7_runs 68 = .ok (.goto 21, 3))) (by decide)) <|
  zcons (a := (71, zi_il 2 72)) (zs_il_n (M := 162) (pc := 71) (zd_eq zk162 (by decide +kernel : decode cX7_runs 71 = .ok (.iload_n 2, 1)))) <|
  zcons (a := (72, zi_k (.int 3) 73)) (zs_iconst (M := 162) (pc := 72) (zd_eq zk162 (by decide +kernel : decode cX7_runs 72 = .ok (.iconst 3, 1))) (by decide)) <|
  zcons (a := (73, zi_b2 (fun x y => ¬ x = y) 85 76)) (zs_icmpne (M := 162) (pc := 73) (zd_eq zk162 (by decide +kernel : decode cX7_runs 73 = .ok (.if_icmp .ne 12, 3))) (by decide)) <|
  zcons (a := (76, zi_al 0 77)) (zs_al_n (M := 162) (pc := 76) (zd_eq zk162 (by decide +kernel : decode cX7_runs 76 = .ok (.aload_n 0, 1)))) <|
  zcons (a := (77, zi_k (.int 124) 79)) (zs_bipush (M := 162) (pc := 77) (zd_eq zk162 (by decide +kernel : decode cX7_runs 77 = .ok (.bipush 124, 2))) (by decide)) <|
  zcons (a := (79, zi_cv 145 1 7 82 1)) (zs_cv (M := 162) (pc := 79) (M' := 145) (k := 1) (kd := 1) (ci := 7) (q := (RX7, TX7, 26)) (zd_eq zk162 (by decide +kernel : decode cX7_runs 79 = .ok (.invokevirtual 147, 3))) zWd145 (zl_m zo162 zy145 zw_945) (zl_i zy145 zw_947) (zl_e zy145 zw_30) (by decide) rfl (by rw [zo145])) <|
  zcons (a := (82, zi_go 89)) (zs_goto (M := 162) (pc := 82) (zd_eq zk162 (by decide +kernel : decode cX7_runs 82 = .ok (.goto 7, 3))) (by decide)) <|
  zcons (a := (85, zi_al 0 86)) (zs_al_n (M := 162) (pc := 85) (zd_eq zk162 (by decide +kernel : decode cX7_runs 85 = .ok (.aload_n 0, 1)))) <|
  zcons (a := (86, zi_gi 7 15 89)) (zs_gi (M := 162) (pc := 86) (n := 0) (ci := 7) (k := 15) (C := RX7) (T := TX7) (N := 26) (zd_eq zk162 (by decide +kernel : decode cX7_runs 86 = .ok (.getfield 189, 3))) rfl (by decide) (by decide) zin_7 (zl_f zo162 zw_811)) <|
  zcons (a := (89, zi_ri)) (zs_ri (M := 162) (pc := 89) (zd_eq zk162 (by decide +kernel : decode cX7_runs 89 = .ok (.ireturn, 1))) rfl) <| znil
theorem zS162 : ∀ pc, zm_Snd 162 pc (zm_lk2 zm_c162 pc) := zlk2 (zcons2 zS162_0 (zcons2 zS162_1 (znil2)))
theorem zS163_0 : ∀ q ∈ zm_c163_0, zm_Snd 163 q.1 q.2 :=
  zcons (a := (0, zi_al 0 1)) (zs_al_n (M := 163) (pc := 0) (zd_eq zk163 (by decide +kernel : decode cX7_ahead 0 = .ok (.aload_n 0, 1)))) <|
  zcons (a := (1, zi_il 1 2)) (zs_il_n (M := 163) (pc := 1) (zd_eq zk163 (by decide +kernel : decode cX7_ahead 1 = .ok (.iload_n 1, 1)))) <|
  zcons (a := (2, zi_cv 135 1 7 5 1)) (zs_cv (M := 163) (pc := 2) (M' := 135) (k := 1) (kd := 1) (ci := 7) (q := (RX7, TX7, 26)) (zd_eq zk163 (by decide +kernel : decode cX7_ahead 2 = .ok (.invokevirtual 150, 3))) zWd135 (zl_m zo163 zy135 zw_953) (zl_i zy135 zw_955) (zl_e zy135 zw_31) (by decide) rfl (by rw [zo135])) <|
  zcons (a := (5, zi_b1 (fun x => x = 0) 30 8)) (zs_ifeq (M := 163) (pc := 5) (zd_eq zk163 (by decide +kernel : decode cX7_ahead 5 = .ok (.ifCond .eq 25, 3))) (by decide)) <|
  zcons (a := (8, zi_il 2 9)) (zs_il_n (M := 163) (pc := 8) (zd_eq zk163 (by decide +kernel : decode cX7_ahead 8 = .ok (.iload_n 2, 1)))) <|
  zcons (a := (9, zi_i2l 10)) (zs_i2l (M := 163) (pc := 9) (zd_eq zk163 (by decide +kernel : decode cX7_ahead 9 = .ok (.i2l, 1)))) <|
  zcons (a := (10, zi_k (.long 0) 11)) (zs_lconst (M := 163) (pc := 10) (zd_eq zk163 (by decide +kernel : decode cX7_ahead 10 = .ok (.lconst 0, 1))) (by decide)) <|
  zcons (a := (11, zi_k (.long 60) 14)) (zs_ldc2 (M := 163) (pc := 11) (zd_eq zk163 (by decide +kernel : decode cX7_ahead 11 = .ok (.ldc2_w 195, 3))) (zl_k2 zo163 zw_1038)) <|
  zcons (a := (14, zi_cs 123 3 17 1)) (zs_cs (M := 163) (pc := 14) (M' := 123) (k := 3) (kd := 1) (zd_eq zk163 (by decide +kernel : decode cX7_ahead 14 = .ok (.invokestatic 49, 3))) zWd123 (zl_m zo163 zy123 zw_880) (zl_s zy123 zw_881)) <|
  zcons (a := (17, zi_b1 (fun x => x = 0) 30 20)) (zs_ifeq (M := 163) (pc := 17) (zd_eq zk163 (by decide +kernel : decode cX7_ahead 17 = .ok (.ifCond .eq 13, 3))) (by decide)) <|
  zcons (a := (20, zi_il 3 21)) (zs_il_n (M := 163) (pc := 20) (zd_eq zk163 (by decide +kernel : decode cX7_ahead 20 = .ok (.iload_n 3, 1)))) <|
  zcons (a := (21, zi_i2l 22)) (zs_i2l (M := 163) (pc := 21) (zd_eq zk163 (by decide +kernel : decode cX7_ahead 21 = .ok (.i2l, 1)))) <|
  zcons (a := (22, zi_k (.long 0) 23)) (zs_lconst (M := 163) (pc := 22) (zd_eq zk163 (by decide +kernel : decode cX7_ahead 22 = .ok (.lconst 0, 1))) (by decide)) <|
  zcons (a := (23, zi_k (.long 1) 24)) (zs_lconst (M := 163) (pc := 23) (zd_eq zk163 (by decide +kernel : decode cX7_ahead 23 = .ok (.lconst 1, 1))) (by decide)) <|
  zcons (a := (24, zi_cs 123 3 27 1)) (zs_cs (M := 163) (pc := 24) (M' := 123) (k := 3) (kd := 1) (zd_eq zk163 (by decide +kernel : decode cX7_ahead 24 = .ok (.invokestatic 49, 3))) zWd123 (zl_m zo163 zy123 zw_880) (zl_s zy123 zw_881)) <|
  zcons (a := (27, zi_b1 (fun x => ¬ x = 0) 32 30)) (zs_ifne (M := 163) (pc := 27) (zd_eq zk163 (by decide +kernel : decode cX7_ahead 27 = .ok (.ifCond .ne 5, 3))) (by decide)) <|
  zcons (a := (30, zi_k (.int (-1)) 31)) (zs_iconst (M := 163) (pc := 30) (zd_eq zk163 (by decide +kernel : decode cX7_ahead 30 = .ok (.iconst (-1), 1))) (by decide)) <|
  zcons (a := (31, zi_ri)) (zs_ri (M := 163) (pc := 31) (zd_eq zk163 (by decide +kernel : decode cX7_ahead 31 = .ok (.ireturn, 1))) rfl) <|
  zcons (a := (32, zi_al 0 33)) (zs_al_n (M := 163) (pc := 32) (zd_eq zk163 (by decide +kernel : decode cX7_ahead 32 = .ok (.aload_n 0, 1)))) <|
  zcons (a := (33, zi_k (.int 0) 34)) (zs_iconst (M := 163) (pc := 33) (zd_eq zk163 (by decide +kernel : decode cX7_ahead 33 = .ok (.iconst 0, 1))) (by decide)) <|
  zcons (a := (34, zi_il 2 35)) (zs_il_n (M := 163) (pc := 34) (zd_eq zk163 (by decide +kernel : decode cX7_ahead 34 = .ok (.iload_n 2, 1)))) <|
  zcons (a := (35, zi_cv 161 2 7 38 0)) (zs_cv (M := 163) (pc := 35) (M' := 161) (k := 2) (kd := 0) (ci := 7) (q := (RX7, TX7, 26)) (zd_eq zk163 (by decide +kernel : decode cX7_ahead 35 = .ok (.invokevirtual 197, 3))) zWd161 (zl_m zo163 zy161 zw_1039) (zl_i zy161 zw_1041) (zl_e zy161 zw_41) (by decide) rfl (by rw [zo161])) <|
  zcons (a := (38, zi_il 3 39)) (zs_il_n (M := 163) (pc := 38) (zd_eq zk163 (by decide +kernel : decode cX7_ahead 38 = .ok (.iload_n 3, 1)))) <|
  zcons (a := (39, zi_b1 (fun x => ¬ x = 0) 55 42)) (zs_ifne (M := 163) (pc := 39) (zd_eq zk163 (by decide +kernel : decode cX7_ahead 39 = .ok (.ifCond .ne 16, 3))) (by decide)) <| znil
theorem zS163_1 : ∀ q ∈ zm_c163_1, zm_Snd 163 q.1 q.2 :=
  zcons (a := (42, zi_al 0 43)) (zs_al_n (M := 163) (pc := 42) (zd_eq zk163 (by decide +kernel : decode cX7_ahead 42 = .ok (.aload_n 0, 1)))) <|
  zcons (a := (43, zi_gr 7 0 46)) (zs_gr (M := 163) (pc := 43) (n := 0) (ci := 7) (k := 0) (C := RX7) (T := TX7) (N := 26) (zd_eq zk163 (by decide +kernel : decode cX7_ahead 43 = .ok (.getfield 7, 3))) rfl (by decide) (by decide) zin_7 (zl_f zo163 zw_796)) <|
  zcons (a := (46, zi_k (.int 129) 49)) (zs_sipush (M := 163) (pc := 46) (zd_eq zk163 (by decide +kernel : decode cX7_ahead 46 = .ok (.sipush 129, 3))) (by decide)) <|
  zcons (a := (49, zi_il 1 50)) (zs_il_n (M := 163) (pc := 49) (zd_eq zk163 (by decide +kernel : decode cX7_ahead 49 = .ok (.iload_n 1, 1)))) <|
  zcons (a := (50, zi_bin (· + ·) 51)) (zs_iadd (M := 163) (pc := 50) (zd_eq zk163 (by decide +kernel : decode cX7_ahead 50 = .ok (.iadd, 1)))) <|
  zcons (a := (51, zi_ald 0 52)) (zs_iald (M := 163) (pc := 51) (zd_eq zk163 (by decide +kernel : decode cX7_ahead 51 = .ok (.iaload, 1)))) <|
  zcons (a := (52, zi_go 68)) (zs_goto (M := 163) (pc := 52) (zd_eq zk163 (by decide +kernel : decode cX7_ahead 52 = .ok (.goto 16, 3))) (by decide)) <|
  zcons (a := (55, zi_al 0 56)) (zs_al_n (M := 163) (pc := 55) (zd_eq zk163 (by decide +kernel : decode cX7_ahead 55 = .ok (.aload_n 0, 1)))) <|
  zcons (a := (56, zi_gr 7 0 59)) (zs_gr (M := 163) (pc := 56) (n := 0) (ci := 7) (k := 0) (C := RX7) (T := TX7) (N := 26) (zd_eq zk163 (by decide +kernel : decode cX7_ahead 56 = .ok (.getfield 7, 3))) rfl (by decide) (by decide) zin_7 (zl_f zo163 zw_796)) <|
  zcons (a := (59, zi_k (.int 134) 62)) (zs_sipush (M := 163) (pc := 59) (zd_eq zk163 (by decide +kernel : decode cX7_ahead 59 = .ok (.sipush 134, 3))) (by decide)) <|
  zcons (a := (62, zi_il 1 63)) (zs_il_n (M := 163) (pc := 62) (zd_eq zk163 (by decide +kernel : decode cX7_ahead 62 = .ok (.iload_n 1, 1)))) <|
  zcons (a := (63, zi_bin (· + ·) 64)) (zs_iadd (M := 163) (pc := 63) (zd_eq zk163 (by decide +kernel : decode cX7_ahead 63 = .ok (.iadd, 1)))) <|
  zcons (a := (64, zi_ald 0 65)) (zs_iald (M := 163) (pc := 64) (zd_eq zk163 (by decide +kernel : decode cX7_ahead 64 = .ok (.iaload, 1)))) <|
  zcons (a := (65, zi_k (.int 20) 67)) (zs_bipush (M := 163) (pc := 65) (zd_eq zk163 (by decide +kernel : decode cX7_ahead 65 = .ok (.bipush 20, 2))) (by decide)) <|
  zcons (a := (67, zi_bin (· + ·) 68)) (zs_iadd (M := 163) (pc := 67) (zd_eq zk163 (by decide +kernel : decode cX7_ahead 67 = .ok (.iadd, 1)))) <|
  zcons (a := (68, zi_ri)) (zs_ri (M := 163) (pc := 68) (zd_eq zk163 (by decide +kernel : decode cX7_ahead 68 = .ok (.ireturn, 1))) rfl) <| znil
theorem zS163 : ∀ pc, zm_Snd 163 pc (zm_lk2 zm_c163 pc) := zlk2 (zcons2 zS163_0 (zcons2 zS163_1 (znil2)))
theorem zS164_0 : ∀ q ∈ zm_c164_0, zm_Snd 164 q.1 q.2 :=
  zcons (a := (0, zi_al 0 1)) (zs_al_n (M := 164) (pc := 0) (zd_eq zk164 (by decide +kernel : decode cX7_fallsOn 0 = .ok (.aload_n 0, 1)))) <|
  zcons (a := (1, zi_il 1 2)) (zs_il_n (M := 164) (pc := 1) (zd_eq zk164 (by decide +kernel : decode cX7_fallsOn 1 = .ok (.iload_n 1, 1)))) <|
  zcons (a := (2, zi_k (.int 124) 4)) (zs_bipush (M := 164) (pc := 2) (zd_eq zk164 (by decide +kernel : decode cX7_fallsOn 2 = .ok (.bipush 124, 2))) (by decide)) <|
  zcons (a := (4, zi_cv 160 2 7 7 0)) (zs_cv (M := 164) (pc := 4) (M' := 160) (k := 2) (kd := 0) (ci := 7) (q := (RX7, TX7, 26)) (zd_eq zk164 (by decide +kernel : decode cX7_fallsOn 4 = .ok (.invokevirtual 182, 3))) zWd160 (zl_m zo164 zy160 zw_1043) (zl_i zy160 zw_1045) (zl_e zy160 zw_42) (by decide) rfl (by rw [zo160])) <|
  zcons (a := (7, zi_k (.int 0) 8)) (zs_iconst (M := 164) (pc := 7) (zd_eq zk164 (by decide +kernel : decode cX7_fallsOn 7 = .ok (.iconst 0, 1))) (by decide)) <|
  zcons (a := (8, zi_is 3 9)) (zs_is_n (M := 164) (pc := 8) (zd_eq zk164 (by decide +kernel : decode cX7_fallsOn 8 = .ok (.istore_n 3, 1))) (by decide +kernel) (by decide +kernel)) <|
  zcons (a := (9, zi_il 3 10)) (zs_il_n (M := 164) (pc := 9) (zd_eq zk164 (by decide +kernel : decode cX7_fallsOn 9 = .ok (.iload_n 3, 1)))) <|
  zcons (a := (10, zi_k (.int 60) 12)) (zs_bipush (M := 164) (pc := 10) (zd_eq zk164 (by decide +kernel : decode cX7_fallsOn 10 = .ok (.bipush 60, 2))) (by decide)) <|
  zcons (a := (12, zi_b2 (fun x y => y < x) 42 15)) (zs_icmpgt (M := 164) (pc := 12) (zd_eq zk164 (by decide +kernel : decode cX7_fallsOn 12 = .ok (.if_icmp .gt 30, 3))) (by decide)) <|
  zcons (a := (15, zi_al 0 16)) (zs_al_n (M := 164) (pc := 15) (zd_eq zk164 (by decide +kernel : decode cX7_fallsOn 15 = .ok (.aload_n 0, 1)))) <|
  zcons (a := (16, zi_gr 7 0 19)) (zs_gr (M := 164) (pc := 16) (n := 0) (ci := 7) (k := 0) (C := RX7) (T := TX7) (N := 26) (zd_eq zk164 (by decide +kernel : decode cX7_fallsOn 16 = .ok (.getfield 7, 3))) rfl (by decide) (by decide) zin_7 (zl_f zo164 zw_796)) <|
  zcons (a := (19, zi_k (.int 129) 22)) (zs_sipush (M := 164) (pc := 19) (zd_eq zk164 (by decide +kernel : decode cX7_fallsOn 19 = .ok (.sipush 129, 3))) (by decide)) <|
  zcons (a := (22, zi_il 2 23)) (zs_il_n (M := 164) (pc := 22) (zd_eq zk164 (by decide +kernel : decode cX7_fallsOn 22 = .ok (.iload_n 2, 1)))) <|
  zcons (a := (23, zi_bin (· + ·) 24)) (zs_iadd (M := 164) (pc := 23) (zd_eq zk164 (by decide +kernel : decode cX7_fallsOn 23 = .ok (.iadd, 1)))) <|
  zcons (a := (24, zi_ald 0 25)) (zs_iald (M := 164) (pc := 24) (zd_eq zk164 (by decide +kernel : decode cX7_fallsOn 24 = .ok (.iaload, 1)))) <|
  zcons (a := (25, zi_b1 (fun x => ¬ x = 0) 30 28)) (zs_ifne (M := 164) (pc := 25) (zd_eq zk164 (by decide +kernel : decode cX7_fallsOn 25 = .ok (.ifCond .ne 5, 3))) (by decide)) <|
  zcons (a := (28, zi_il 3 29)) (zs_il_n (M := 164) (pc := 28) (zd_eq zk164 (by decide +kernel : decode cX7_fallsOn 28 = .ok (.iload_n 3, 1)))) <|
  zcons (a := (29, zi_ri)) (zs_ri (M := 164) (pc := 29) (zd_eq zk164 (by decide +kernel : decode cX7_fallsOn 29 = .ok (.ireturn, 1))) rfl) <|
  zcons (a := (30, zi_al 0 31)) (zs_al_n (M := 164) (pc := 30) (zd_eq zk164 (by decide +kernel : decode cX7_fallsOn 30 = .ok (.aload_n 0, 1)))) <|
  zcons (a := (31, zi_k (.int 124) 33)) (zs_bipush (M := 164) (pc := 31) (zd_eq zk164 (by decide +kernel : decode cX7_fallsOn 31 = .ok (.bipush 124, 2))) (by decide)) <|
  zcons (a := (33, zi_cv 141 1 7 36 0)) (zs_cv (M := 164) (pc := 33) (M' := 141) (k := 1) (kd := 0) (ci := 7) (q := (RX7, TX7, 26)) (zd_eq zk164 (by decide +kernel : decode cX7_fallsOn 33 = .ok (.invokevirtual 176, 3))) zWd141 (zl_m zo164 zy141 zw_1023) (zl_i zy141 zw_1025) (zl_e zy141 zw_39) (by decide) rfl (by rw [zo141])) <|
  zcons (a := (36, zi_inc 3 1 39)) (zs_inc (M := 164) (pc := 36) (zd_eq zk164 (by decide +kernel : decode cX7_fallsOn 36 = .ok (.iinc 3 1, 3))) (by decide) (by decide +kernel) (by decide +kernel)) <|
  zcons (a := (39, zi_go 9)) (zs_goto (M := 164) (pc := 39) (zd_eq zk164 (by decide +kernel : decode cX7_fallsOn 39 = .ok (.goto (-30), 3))) (by decide)) <|
  zcons (a := (42, zi_k (.int (-4)) 44)) (zs_bipush (M := 164) (pc := 42) (zd_eq zk164 (by decide +kernel : decode cX7_fallsOn 42 = .ok (.bipush (-4), 2))) (by decide)) <| znil
theorem zS164_1 : ∀ q ∈ zm_c164_1, zm_Snd 164 q.1 q.2 :=
  zcons (a := (44, zi_ri)) (zs_ri (M := 164) (pc := 44) (zd_eq zk164 (by decide +kernel : decode cX7_fallsOn 44 = .ok (.ireturn, 1))) rfl) <| znil
theorem zS164 : ∀ pc, zm_Snd 164 pc (zm_lk2 zm_c164 pc) := zlk2 (zcons2 zS164_0 (zcons2 zS164_1 (znil2)))
theorem zS165_0 : ∀ q ∈ zm_c165_0, zm_Snd 165 q.1 q.2 :=
  zcons (a := (0, zi_al 0 1)) (zs_al_n (M := 165) (pc := 0) (zd_eq zk165 (by decide +kernel : decode cX7_falls 0 = .ok (.aload_n 0, 1)))) <|
  zcons (a := (1, zi_il 1 2)) (zs_il_n (M := 165) (pc := 1) (zd_eq zk165 (by decide +kernel : decode cX7_falls 1 = .ok (.iload_n 1, 1)))) <|
  zcons (a := (2, zi_cv 135 1 7 5 1)) (zs_cv (M := 165) (pc := 2) (M' := 135) (k := 1) (kd := 1) (ci := 7) (q := (RX7, TX7, 26)) (zd_eq zk165 (by decide +kernel : decode cX7_falls 2 = .ok (.invokevirtual 150, 3))) zWd135 (zl_m zo165 zy135 zw_953) (zl_i zy135 zw_955) (zl_e zy135 zw_31) (by decide) rfl (by rw [zo135])) <|
  zcons (a := (5, zi_b1 (fun x => x = 0) 17 8)) (zs_ifeq (M := 165) (pc := 5) (zd_eq zk165 (by decide +kernel : decode cX7_falls 5 = .ok (.ifCond .eq 12, 3))) (by decide)) <|
  zcons (a := (8, zi_al 0 9)) (zs_al_n (M := 165) (pc := 8) (zd_eq zk165 (by decide +kernel : decode cX7_falls 8 = .ok (.aload_n 0, 1)))) <|
  zcons (a := (9, zi_k (.int 0) 10)) (zs_iconst (M := 165) (pc := 9) (zd_eq zk165 (by decide +kernel : decode cX7_falls 9 = .ok (.iconst 0, 1))) (by decide)) <|
  zcons (a := (10, zi_il 1 11)) (zs_il_n (M := 165) (pc := 10) (zd_eq zk165 (by decide +kernel : decode cX7_falls 10 = .ok (.iload_n 1, 1)))) <|
  zcons (a := (11, zi_cv 164 2 7 14 1)) (zs_cv (M := 165) (pc := 11) (M' := 164) (k := 2) (kd := 1) (ci := 7) (q := (RX7, TX7, 26)) (zd_eq zk165 (by decide +kernel : decode cX7_falls 11 = .ok (.invokevirtual 200, 3))) zWd164 (zl_m zo165 zy164 zw_1055) (zl_i zy164 zw_1057) (zl_e zy164 zw_43) (by decide) rfl (by rw [zo164])) <|
  zcons (a := (14, zi_go 18)) (zs_goto (M := 165) (pc := 14) (zd_eq zk165 (by decide +kernel : decode cX7_falls 14 = .ok (.goto 4, 3))) (by decide)) <|
  zcons (a := (17, zi_k (.int (-1)) 18)) (zs_iconst (M := 165) (pc := 17) (zd_eq zk165 (by decide +kernel : decode cX7_falls 17 = .ok (.iconst (-1), 1))) (by decide)) <|
  zcons (a := (18, zi_ri)) (zs_ri (M := 165) (pc := 18) (zd_eq zk165 (by decide +kernel : decode cX7_falls 18 = .ok (.ireturn, 1))) rfl) <| znil
theorem zS165 : ∀ pc, zm_Snd 165 pc (zm_lk2 zm_c165 pc) := zlk2 (zcons2 zS165_0 (znil2))
theorem zS166_0 : ∀ q ∈ zm_c166_0, zm_Snd 166 q.1 q.2 :=
  zcons (a := (0, zi_ll 0 1)) (zs_ll_n (M := 166) (pc := 0) (zd_eq zk166 (by decide +kernel : decode cX7_lowest 0 = .ok (.lload_n 0, 1)))) <|
  zcons (a := (1, zi_ls 5 3)) (zs_ls_w (M := 166) (pc := 1) (zd_eq zk166 (by decide +kernel : decode cX7_lowest 1 = .ok (.lstore 5, 2))) (by decide +kernel) (by decide +kernel) (by decide +kernel)) <|
  zcons (a := (3, zi_ll 2 4)) (zs_ll_n (M := 166) (pc := 3) (zd_eq zk166 (by decide +kernel : decode cX7_lowest 3 = .ok (.lload_n 2, 1)))) <|
  zcons (a := (4, zi_ls 7 6)) (zs_ls_w (M := 166) (pc := 4) (zd_eq zk166 (by decide +kernel : decode cX7_lowest 4 = .ok (.lstore 7, 2))) (by decide +kernel) (by decide +kernel) (by decide +kernel)) <|
  zcons (a := (6, zi_ll 7 8)) (zs_ll_w (M := 166) (pc := 6) (zd_eq zk166 (by decide +kernel : decode cX7_lowest 6 = .ok (.lload 7, 2)))) <|
  zcons (a := (8, zi_k (.long 0) 9)) (zs_lconst (M := 166) (pc := 8) (zd_eq zk166 (by decide +kernel : decode cX7_lowest 8 = .ok (.lconst 0, 1))) (by decide)) <|
  zcons (a := (9, zi_lcmp 10)) (zs_lcmp (M := 166) (pc := 9) (zd_eq zk166 (by decide +kernel : decode cX7_lowest 9 = .ok (.lcmp, 1)))) <|
  zcons (a := (10, zi_b1 (fun x => x = 0) 31 13)) (zs_ifeq (M := 166) (pc := 10) (zd_eq zk166 (by decide +kernel : decode cX7_lowest 10 = .ok (.ifCond .eq 21, 3))) (by decide)) <|
  zcons (a := (13, zi_ll 5 15)) (zs_ll_w (M := 166) (pc := 13) (zd_eq zk166 (by decide +kernel : decode cX7_lowest 13 = .ok (.lload 5, 2)))) <|
  zcons (a := (15, zi_ll 7 17)) (zs_ll_w (M := 166) (pc := 15) (zd_eq zk166 (by decide +kernel : decode cX7_lowest 15 = .ok (.lload 7, 2)))) <|
  zcons (a := (17, zi_lrem 18)) (zs_lrem (M := 166) (pc := 17) (zd_eq zk166 (by decide +kernel : decode cX7_lowest 17 = .ok (.lrem, 1)))) <|
  zcons (a := (18, zi_ls 9 20)) (zs_ls_w (M := 166) (pc := 18) (zd_eq zk166 (by decide +kernel : decode cX7_lowest 18 = .ok (.lstore 9, 2))) (by decide +kernel) (by decide +kernel) (by decide +kernel)) <|
  zcons (a := (20, zi_ll 7 22)) (zs_ll_w (M := 166) (pc := 20) (zd_eq zk166 (by decide +kernel : decode cX7_lowest 20 = .ok (.lload 7, 2)))) <|
  zcons (a := (22, zi_ls 5 24)) (zs_ls_w (M := 166) (pc := 22) (zd_eq zk166 (by decide +kernel : decode cX7_lowest 22 = .ok (.lstore 5, 2))) (by decide +kernel) (by decide +kernel) (by decide +kernel)) <|
  zcons (a := (24, zi_ll 9 26)) (zs_ll_w (M := 166) (pc := 24) (zd_eq zk166 (by decide +kernel : decode cX7_lowest 24 = .ok (.lload 9, 2)))) <|
  zcons (a := (26, zi_ls 7 28)) (zs_ls_w (M := 166) (pc := 26) (zd_eq zk166 (by decide +kernel : decode cX7_lowest 26 = .ok (.lstore 7, 2))) (by decide +kernel) (by decide +kernel) (by decide +kernel)) <|
  zcons (a := (28, zi_go 6)) (zs_goto (M := 166) (pc := 28) (zd_eq zk166 (by decide +kernel : decode cX7_lowest 28 = .ok (.goto (-22), 3))) (by decide)) <|
  zcons (a := (31, zi_il 4 33)) (zs_il_w (M := 166) (pc := 31) (zd_eq zk166 (by decide +kernel : decode cX7_lowest 31 = .ok (.iload 4, 2)))) <|
  zcons (a := (33, zi_b1 (fun x => ¬ x = 0) 40 36)) (zs_ifne (M := 166) (pc := 33) (zd_eq zk166 (by decide +kernel : decode cX7_lowest 33 = .ok (.ifCond .ne 7, 3))) (by decide)) <|
  zcons (a := (36, zi_ll 0 37)) (zs_ll_n (M := 166) (pc := 36) (zd_eq zk166 (by decide +kernel : decode cX7_lowest 36 = .ok (.lload_n 0, 1)))) <|
  zcons (a := (37, zi_go 41)) (zs_goto (M := 166) (pc := 37) (zd_eq zk166 (by decide +kernel : decode cX7_lowest 37 = .ok (.goto 4, 3))) (by decide)) <|
  zcons (a := (40, zi_ll 2 41)) (zs_ll_n (M := 166) (pc := 40) (zd_eq zk166 (by decide +kernel : decode cX7_lowest 40 = .ok (.lload_n 2, 1)))) <|
  zcons (a := (41, zi_ll 5 43)) (zs_ll_w (M := 166) (pc := 41) (zd_eq zk166 (by decide +kernel : decode cX7_lowest 41 = .ok (.lload 5, 2)))) <|
  zcons (a := (43, zi_ldiv 44)) (zs_ldiv (M := 166) (pc := 43) (zd_eq zk166 (by decide +kernel : decode cX7_lowest 43 = .ok (.ldiv, 1)))) <| znil
theorem zS166_1 : ∀ q ∈ zm_c166_1, zm_Snd 166 q.1 q.2 :=
  zcons (a := (44, zi_rl)) (zs_rl (M := 166) (pc := 44) (zd_eq zk166 (by decide +kernel : decode cX7_lowest 44 = .ok (.lreturn, 1))) rfl) <| znil
theorem zS166 : ∀ pc, zm_Snd 166 pc (zm_lk2 zm_c166 pc) := zlk2 (zcons2 zS166_0 (zcons2 zS166_1 (znil2)))
theorem zS167_0 : ∀ q ∈ zm_c167_0, zm_Snd 167 q.1 q.2 :=
  zcons (a := (0, zi_al 0 1)) (zs_al_n (M := 167) (pc := 0) (zd_eq zk167 (by decide +kernel : decode cX7_reign 0 = .ok (.aload_n 0, 1)))) <|
  zcons (a := (1, zi_il 1 2)) (zs_il_n (M := 167) (pc := 1) (zd_eq zk167 (by decide +kernel : decode cX7_reign 1 = .ok (.iload_n 1, 1)))) <|
  zcons (a := (2, zi_cv 135 1 7 5 1)) (zs_cv (M := 167) (pc := 2) (M' := 135) (k := 1) (kd := 1) (ci := 7) (q := (RX7, TX7, 26)) (zd_eq zk167 (by decide +kernel : decode cX7_reign 2 = .ok (.invokevirtual 150, 3))) zWd135 (zl_m zo167 zy135 zw_953) (zl_i zy135 zw_955) (zl_e zy135 zw_31) (by decide) rfl (by rw [zo135])) <|
  zcons (a := (5, zi_b1 (fun x => x = 0) 30 8)) (zs_ifeq (M := 167) (pc := 5) (zd_eq zk167 (by decide +kernel : decode cX7_reign 5 = .ok (.ifCond .eq 25, 3))) (by decide)) <|
  zcons (a := (8, zi_il 2 9)) (zs_il_n (M := 167) (pc := 8) (zd_eq zk167 (by decide +kernel : decode cX7_reign 8 = .ok (.iload_n 2, 1)))) <|
  zcons (a := (9, zi_i2l 10)) (zs_i2l (M := 167) (pc := 9) (zd_eq zk167 (by decide +kernel : decode cX7_reign 9 = .ok (.i2l, 1)))) <|
  zcons (a := (10, zi_k (.long 1) 11)) (zs_lconst (M := 167) (pc := 10) (zd_eq zk167 (by decide +kernel : decode cX7_reign 10 = .ok (.lconst 1, 1))) (by decide)) <|
  zcons (a := (11, zi_k (.long 60) 14)) (zs_ldc2 (M := 167) (pc := 11) (zd_eq zk167 (by decide +kernel : decode cX7_reign 11 = .ok (.ldc2_w 195, 3))) (zl_k2 zo167 zw_1038)) <|
  zcons (a := (14, zi_cs 123 3 17 1)) (zs_cs (M := 167) (pc := 14) (M' := 123) (k := 3) (kd := 1) (zd_eq zk167 (by decide +kernel : decode cX7_reign 14 = .ok (.invokestatic 49, 3))) zWd123 (zl_m zo167 zy123 zw_880) (zl_s zy123 zw_881)) <|
  zcons (a := (17, zi_b1 (fun x => x = 0) 30 20)) (zs_ifeq (M := 167) (pc := 17) (zd_eq zk167 (by decide +kernel : decode cX7_reign 17 = .ok (.ifCond .eq 13, 3))) (by decide)) <|
  zcons (a := (20, zi_il 3 21)) (zs_il_n (M := 167) (pc := 20) (zd_eq zk167 (by decide +kernel : decode cX7_reign 20 = .ok (.iload_n 3, 1)))) <|
  zcons (a := (21, zi_i2l 22)) (zs_i2l (M := 167) (pc := 21) (zd_eq zk167 (by decide +kernel : decode cX7_reign 21 = .ok (.i2l, 1)))) <|
  zcons (a := (22, zi_k (.long 0) 23)) (zs_lconst (M := 167) (pc := 22) (zd_eq zk167 (by decide +kernel : decode cX7_reign 22 = .ok (.lconst 0, 1))) (by decide)) <|
  zcons (a := (23, zi_k (.long 1) 24)) (zs_lconst (M := 167) (pc := 23) (zd_eq zk167 (by decide +kernel : decode cX7_reign 23 = .ok (.lconst 1, 1))) (by decide)) <|
  zcons (a := (24, zi_cs 123 3 27 1)) (zs_cs (M := 167) (pc := 24) (M' := 123) (k := 3) (kd := 1) (zd_eq zk167 (by decide +kernel : decode cX7_reign 24 = .ok (.invokestatic 49, 3))) zWd123 (zl_m zo167 zy123 zw_880) (zl_s zy123 zw_881)) <|
  zcons (a := (27, zi_b1 (fun x => ¬ x = 0) 34 30)) (zs_ifne (M := 167) (pc := 27) (zd_eq zk167 (by decide +kernel : decode cX7_reign 27 = .ok (.ifCond .ne 7, 3))) (by decide)) <|
  zcons (a := (30, zi_k (.long (-1)) 33)) (zs_ldc2 (M := 167) (pc := 30) (zd_eq zk167 (by decide +kernel : decode cX7_reign 30 = .ok (.ldc2_w 203, 3))) (zl_k2 zo167 zw_1063)) <|
  zcons (a := (33, zi_rl)) (zs_rl (M := 167) (pc := 33) (zd_eq zk167 (by decide +kernel : decode cX7_reign 33 = .ok (.lreturn, 1))) rfl) <|
  zcons (a := (34, zi_al 0 35)) (zs_al_n (M := 167) (pc := 34) (zd_eq zk167 (by decide +kernel : decode cX7_reign 34 = .ok (.aload_n 0, 1)))) <|
  zcons (a := (35, zi_k (.int 0) 36)) (zs_iconst (M := 167) (pc := 35) (zd_eq zk167 (by decide +kernel : decode cX7_reign 35 = .ok (.iconst 0, 1))) (by decide)) <|
  zcons (a := (36, zi_il 2 37)) (zs_il_n (M := 167) (pc := 36) (zd_eq zk167 (by decide +kernel : decode cX7_reign 36 = .ok (.iload_n 2, 1)))) <|
  zcons (a := (37, zi_cv 161 2 7 40 0)) (zs_cv (M := 167) (pc := 37) (M' := 161) (k := 2) (kd := 0) (ci := 7) (q := (RX7, TX7, 26)) (zd_eq zk167 (by decide +kernel : decode cX7_reign 37 = .ok (.invokevirtual 197, 3))) zWd161 (zl_m zo167 zy161 zw_1039) (zl_i zy161 zw_1041) (zl_e zy161 zw_41) (by decide) rfl (by rw [zo161])) <|
  zcons (a := (40, zi_al 0 41)) (zs_al_n (M := 167) (pc := 40) (zd_eq zk167 (by decide +kernel : decode cX7_reign 40 = .ok (.aload_n 0, 1)))) <|
  zcons (a := (41, zi_gr 7 17 44)) (zs_gr (M := 167) (pc := 41) (n := 0) (ci := 7) (k := 17) (C := RX7) (T := TX7) (N := 26) (zd_eq zk167 (by decide +kernel : decode cX7_reign 41 = .ok (.getfield 25, 3))) rfl (by decide) (by decide) zin_7 (zl_f zo167 zw_813)) <| znil
theorem zS167_1 : ∀ q ∈ zm_c167_1, zm_Snd 167 q.1 q.2 :=
  zcons (a := (44, zi_il 1 45)) (zs_il_n (M := 167) (pc := 44) (zd_eq zk167 (by decide +kernel : decode cX7_reign 44 = .ok (.iload_n 1, 1)))) <|
  zcons (a := (45, zi_ald 0 46)) (zs_iald (M := 167) (pc := 45) (zd_eq zk167 (by decide +kernel : decode cX7_reign 45 = .ok (.iaload, 1)))) <|
  zcons (a := (46, zi_i2l 47)) (zs_i2l (M := 167) (pc := 46) (zd_eq zk167 (by decide +kernel : decode cX7_reign 46 = .ok (.i2l, 1)))) <|
  zcons (a := (47, zi_il 2 48)) (zs_il_n (M := 167) (pc := 47) (zd_eq zk167 (by decide +kernel : decode cX7_reign 47 = .ok (.iload_n 2, 1)))) <|
  zcons (a := (48, zi_i2l 49)) (zs_i2l (M := 167) (pc := 48) (zd_eq zk167 (by decide +kernel : decode cX7_reign 48 = .ok (.i2l, 1)))) <|
  zcons (a := (49, zi_il 3 50)) (zs_il_n (M := 167) (pc := 49) (zd_eq zk167 (by decide +kernel : decode cX7_reign 49 = .ok (.iload_n 3, 1)))) <|
  zcons (a := (50, zi_cs 166 3 53 2)) (zs_cs (M := 167) (pc := 50) (M' := 166) (k := 3) (kd := 2) (zd_eq zk167 (by decide +kernel : decode cX7_reign 50 = .ok (.invokestatic 205, 3))) zWd166 (zl_m zo167 zy166 zw_1064) (zl_s zy166 zw_1065)) <|
  zcons (a := (53, zi_rl)) (zs_rl (M := 167) (pc := 53) (zd_eq zk167 (by decide +kernel : decode cX7_reign 53 = .ok (.lreturn, 1))) rfl) <| znil
theorem zS167 : ∀ pc, zm_Snd 167 pc (zm_lk2 zm_c167 pc) := zlk2 (zcons2 zS167_0 (zcons2 zS167_1 (znil2)))
theorem zS168_0 : ∀ q ∈ zm_c168_0, zm_Snd 168 q.1 q.2 :=
  zcons (a := (0, zi_il 1 1)) (zs_il_n (M := 168) (pc := 0) (zd_eq zk168 (by decide +kernel : decode cX7_decree 0 = .ok (.iload_n 1, 1)))) <|
  zcons (a := (1, zi_i2l 2)) (zs_i2l (M := 168) (pc := 1) (zd_eq zk168 (by decide +kernel : decode cX7_decree 1 = .ok (.i2l, 1)))) <|
  zcons (a := (2, zi_k (.long 0) 3)) (zs_lconst (M := 168) (pc := 2) (zd_eq zk168 (by decide +kernel : decode cX7_decree 2 = .ok (.lconst 0, 1))) (by decide)) <|
  zcons (a := (3, zi_k (.long 60) 6)) (zs_ldc2 (M := 168) (pc := 3) (zd_eq zk168 (by decide +kernel : decode cX7_decree 3 = .ok (.ldc2_w 195, 3))) (zl_k2 zo168 zw_1038)) <|
  zcons (a := (6, zi_cs 123 3 9 1)) (zs_cs (M := 168) (pc := 6) (M' := 123) (k := 3) (kd := 1) (zd_eq zk168 (by decide +kernel : decode cX7_decree 6 = .ok (.invokestatic 49, 3))) zWd123 (zl_m zo168 zy123 zw_880) (zl_s zy123 zw_881)) <|
  zcons (a := (9, zi_b1 (fun x => ¬ x = 0) 14 12)) (zs_ifne (M := 168) (pc := 9) (zd_eq zk168 (by decide +kernel : decode cX7_decree 9 = .ok (.ifCond .ne 5, 3))) (by decide)) <|
  zcons (a := (12, zi_k (.int (-1)) 13)) (zs_iconst (M := 168) (pc := 12) (zd_eq zk168 (by decide +kernel : decode cX7_decree 12 = .ok (.iconst (-1), 1))) (by decide)) <|
  zcons (a := (13, zi_ri)) (zs_ri (M := 168) (pc := 13) (zd_eq zk168 (by decide +kernel : decode cX7_decree 13 = .ok (.ireturn, 1))) rfl) <|
  zcons (a := (14, zi_al 0 15)) (zs_al_n (M := 168) (pc := 14) (zd_eq zk168 (by decide +kernel : decode cX7_decree 14 = .ok (.aload_n 0, 1)))) <|
  zcons (a := (15, zi_k (.int 0) 16)) (zs_iconst (M := 168) (pc := 15) (zd_eq zk168 (by decide +kernel : decode cX7_decree 15 = .ok (.iconst 0, 1))) (by decide)) <|
  zcons (a := (16, zi_il 1 17)) (zs_il_n (M := 168) (pc := 16) (zd_eq zk168 (by decide +kernel : decode cX7_decree 16 = .ok (.iload_n 1, 1)))) <|
  zcons (a := (17, zi_cv 161 2 7 20 0)) (zs_cv (M := 168) (pc := 17) (M' := 161) (k := 2) (kd := 0) (ci := 7) (q := (RX7, TX7, 26)) (zd_eq zk168 (by decide +kernel : decode cX7_decree 17 = .ok (.invokevirtual 197, 3))) zWd161 (zl_m zo168 zy161 zw_1039) (zl_i zy161 zw_1041) (zl_e zy161 zw_41) (by decide) rfl (by rw [zo161])) <|
  zcons (a := (20, zi_al 0 21)) (zs_al_n (M := 168) (pc := 20) (zd_eq zk168 (by decide +kernel : decode cX7_decree 20 = .ok (.aload_n 0, 1)))) <|
  zcons (a := (21, zi_k (.int 124) 23)) (zs_bipush (M := 168) (pc := 21) (zd_eq zk168 (by decide +kernel : decode cX7_decree 21 = .ok (.bipush 124, 2))) (by decide)) <|
  zcons (a := (23, zi_cv 144 1 7 26 1)) (zs_cv (M := 168) (pc := 23) (M' := 144) (k := 1) (kd := 1) (ci := 7) (q := (RX7, TX7, 26)) (zd_eq zk168 (by decide +kernel : decode cX7_decree 23 = .ok (.invokevirtual 141, 3))) zWd144 (zl_m zo168 zy144 zw_937) (zl_i zy144 zw_939) (zl_e zy144 zw_28) (by decide) rfl (by rw [zo144])) <|
  zcons (a := (26, zi_ri)) (zs_ri (M := 168) (pc := 26) (zd_eq zk168 (by decide +kernel : decode cX7_decree 26 = .ok (.ireturn, 1))) rfl) <| znil
theorem zS168 : ∀ pc, zm_Snd 168 pc (zm_lk2 zm_c168 pc) := zlk2 (zcons2 zS168_0 (znil2))
theorem zS169_0 : ∀ q ∈ zm_c169_0, zm_Snd 169 q.1 q.2 :=
  zcons (a := (0, zi_al 0 1)) (zs_al_n (M := 169) (pc := 0) (zd_eq zk169 (by decide +kernel : decode cX7_coup 0 = .ok (.aload_n 0, 1)))) <|
  zcons (a := (1, zi_k (.int 0) 2)) (zs_iconst (M := 169) (pc := 1) (zd_eq zk169 (by decide +kernel : decode cX7_coup 1 = .ok (.iconst 0, 1))) (by decide)) <|
  zcons (a := (2, zi_cv 143 1 7 5 1)) (zs_cv (M := 169) (pc := 2) (M' := 143) (k := 1) (kd := 1) (ci := 7) (q := (RX7, TX7, 26)) (zd_eq zk169 (by decide +kernel : decode cX7_coup 2 = .ok (.invokevirtual 138, 3))) zWd143 (zl_m zo169 zy143 zw_933) (zl_i zy143 zw_935) (zl_e zy143 zw_27) (by decide) rfl (by rw [zo143])) <|
  zcons (a := (5, zi_is 1 6)) (zs_is_n (M := 169) (pc := 5) (zd_eq zk169 (by decide +kernel : decode cX7_coup 5 = .ok (.istore_n 1, 1))) (by decide +kernel) (by decide +kernel)) <|
  zcons (a := (6, zi_al 0 7)) (zs_al_n (M := 169) (pc := 6) (zd_eq zk169 (by decide +kernel : decode cX7_coup 6 = .ok (.aload_n 0, 1)))) <|
  zcons (a := (7, zi_k (.int 0) 8)) (zs_iconst (M := 169) (pc := 7) (zd_eq zk169 (by decide +kernel : decode cX7_coup 7 = .ok (.iconst 0, 1))) (by decide)) <|
  zcons (a := (8, zi_k (.int 124) 10)) (zs_bipush (M := 169) (pc := 8) (zd_eq zk169 (by decide +kernel : decode cX7_coup 8 = .ok (.bipush 124, 2))) (by decide)) <|
  zcons (a := (10, zi_cv 160 2 7 13 0)) (zs_cv (M := 169) (pc := 10) (M' := 160) (k := 2) (kd := 0) (ci := 7) (q := (RX7, TX7, 26)) (zd_eq zk169 (by decide +kernel : decode cX7_coup 10 = .ok (.invokevirtual 182, 3))) zWd160 (zl_m zo169 zy160 zw_1043) (zl_i zy160 zw_1045) (zl_e zy160 zw_42) (by decide) rfl (by rw [zo160])) <|
  zcons (a := (13, zi_k (.int 1) 14)) (zs_iconst (M := 169) (pc := 13) (zd_eq zk169 (by decide +kernel : decode cX7_coup 13 = .ok (.iconst 1, 1))) (by decide)) <|
  zcons (a := (14, zi_is 2 15)) (zs_is_n (M := 169) (pc := 14) (zd_eq zk169 (by decide +kernel : decode cX7_coup 14 = .ok (.istore_n 2, 1))) (by decide +kernel) (by decide +kernel)) <|
  zcons (a := (15, zi_il 2 16)) (zs_il_n (M := 169) (pc := 15) (zd_eq zk169 (by decide +kernel : decode cX7_coup 15 = .ok (.iload_n 2, 1)))) <|
  zcons (a := (16, zi_k (.int 60) 18)) (zs_bipush (M := 169) (pc := 16) (zd_eq zk169 (by decide +kernel : decode cX7_coup 16 = .ok (.bipush 60, 2))) (by decide)) <|
  zcons (a := (18, zi_b2 (fun x y => y < x) 45 21)) (zs_icmpgt (M := 169) (pc := 18) (zd_eq zk169 (by decide +kernel : decode cX7_coup 18 = .ok (.if_icmp .gt 27, 3))) (by decide)) <|
  zcons (a := (21, zi_al 0 22)) (zs_al_n (M := 169) (pc := 21) (zd_eq zk169 (by decide +kernel : decode cX7_coup 21 = .ok (.aload_n 0, 1)))) <|
  zcons (a := (22, zi_k (.int 124) 24)) (zs_bipush (M := 169) (pc := 22) (zd_eq zk169 (by decide +kernel : decode cX7_coup 22 = .ok (.bipush 124, 2))) (by decide)) <|
  zcons (a := (24, zi_cv 141 1 7 27 0)) (zs_cv (M := 169) (pc := 24) (M' := 141) (k := 1) (kd := 0) (ci := 7) (q := (RX7, TX7, 26)) (zd_eq zk169 (by decide +kernel : decode cX7_coup 24 = .ok (.invokevirtual 176, 3))) zWd141 (zl_m zo169 zy141 zw_1023) (zl_i zy141 zw_1025) (zl_e zy141 zw_39) (by decide) rfl (by rw [zo141])) <|
  zcons (a := (27, zi_al 0 28)) (zs_al_n (M := 169) (pc := 27) (zd_eq zk169 (by decide +kernel : decode cX7_coup 27 = .ok (.aload_n 0, 1)))) <|
  zcons (a := (28, zi_k (.int 124) 30)) (zs_bipush (M := 169) (pc := 28) (zd_eq zk169 (by decide +kernel : decode cX7_coup 28 = .ok (.bipush 124, 2))) (by decide)) <|
  zcons (a := (30, zi_cv 143 1 7 33 1)) (zs_cv (M := 169) (pc := 30) (M' := 143) (k := 1) (kd := 1) (ci := 7) (q := (RX7, TX7, 26)) (zd_eq zk169 (by decide +kernel : decode cX7_coup 30 = .ok (.invokevirtual 138, 3))) zWd143 (zl_m zo169 zy143 zw_933) (zl_i zy143 zw_935) (zl_e zy143 zw_27) (by decide) rfl (by rw [zo143])) <|
  zcons (a := (33, zi_il 1 34)) (zs_il_n (M := 169) (pc := 33) (zd_eq zk169 (by decide +kernel : decode cX7_coup 33 = .ok (.iload_n 1, 1)))) <|
  zcons (a := (34, zi_b2 (fun x y => x = y) 39 37)) (zs_icmpeq (M := 169) (pc := 34) (zd_eq zk169 (by decide +kernel : decode cX7_coup 34 = .ok (.if_icmp .eq 5, 3))) (by decide)) <|
  zcons (a := (37, zi_il 2 38)) (zs_il_n (M := 169) (pc := 37) (zd_eq zk169 (by decide +kernel : decode cX7_coup 37 = .ok (.iload_n 2, 1)))) <|
  zcons (a := (38, zi_ri)) (zs_ri (M := 169) (pc := 38) (zd_eq zk169 (by decide +kernel : decode cX7_coup 38 = .ok (.ireturn, 1))) rfl) <|
  zcons (a := (39, zi_inc 2 1 42)) (zs_inc (M := 169) (pc := 39) (zd_eq zk169 (by decide +kernel : decode cX7_coup 39 = .ok (.iinc 2 1, 3))) (by decide) (by decide +kernel) (by decide +kernel)) <| znil
theorem zS169_1 : ∀ q ∈ zm_c169_1, zm_Snd 169 q.1 q.2 :=
  zcons (a := (42, zi_go 15)) (zs_goto (M := 169) (pc := 42) (zd_eq zk169 (by decide +kernel : decode cX7_coup 42 = .ok (.goto (-27), 3))) (by decide)) <|
  zcons (a := (45, zi_k (.int (-4)) 47)) (zs_bipush (M := 169) (pc := 45) (zd_eq zk169 (by decide +kernel : decode cX7_coup 45 = .ok (.bipush (-4), 2))) (by decide)) <|
  zcons (a := (47, zi_ri)) (zs_ri (M := 169) (pc := 47) (zd_eq zk169 (by decide +kernel : decode cX7_coup 47 = .ok (.ireturn, 1))) rfl) <| znil
theorem zS169 : ∀ pc, zm_Snd 169 pc (zm_lk2 zm_c169 pc) := zlk2 (zcons2 zS169_0 (zcons2 zS169_1 (znil2)))
theorem zS170_0 : ∀ q ∈ zm_c170_0, zm_Snd 170 q.1 q.2 :=
  zcons (a := (0, zi_al 0 1)) (zs_al_n (M := 170) (pc := 0) (zd_eq zk170 (by decide +kernel : decode cX7_need 0 = .ok (.aload_n 0, 1)))) <|
  zcons (a := (1, zi_il 1 2)) (zs_il_n (M := 170) (pc := 1) (zd_eq zk170 (by decide +kernel : decode cX7_need 1 = .ok (.iload_n 1, 1)))) <|
  zcons (a := (2, zi_cv 135 1 7 5 1)) (zs_cv (M := 170) (pc := 2) (M' := 135) (k := 1) (kd := 1) (ci := 7) (q := (RX7, TX7, 26)) (zd_eq zk170 (by decide +kernel : decode cX7_need 2 = .ok (.invokevirtual 150, 3))) zWd135 (zl_m zo170 zy135 zw_953) (zl_i zy135 zw_955) (zl_e zy135 zw_31) (by decide) rfl (by rw [zo135])) <|
  zcons (a := (5, zi_b1 (fun x => x = 0) 20 8)) (zs_ifeq (M := 170) (pc := 5) (zd_eq zk170 (by decide +kernel : decode cX7_need 5 = .ok (.ifCond .eq 15, 3))) (by decide)) <|
  zcons (a := (8, zi_il 2 9)) (zs_il_n (M := 170) (pc := 8) (zd_eq zk170 (by decide +kernel : decode cX7_need 8 = .ok (.iload_n 2, 1)))) <|
  zcons (a := (9, zi_i2l 10)) (zs_i2l (M := 170) (pc := 9) (zd_eq zk170 (by decide +kernel : decode cX7_need 9 = .ok (.i2l, 1)))) <|
  zcons (a := (10, zi_k (.long 0) 11)) (zs_lconst (M := 170) (pc := 10) (zd_eq zk170 (by decide +kernel : decode cX7_need 10 = .ok (.lconst 0, 1))) (by decide)) <|
  zcons (a := (11, zi_k (.long 60) 14)) (zs_ldc2 (M := 170) (pc := 11) (zd_eq zk170 (by decide +kernel : decode cX7_need 11 = .ok (.ldc2_w 195, 3))) (zl_k2 zo170 zw_1038)) <|
  zcons (a := (14, zi_cs 123 3 17 1)) (zs_cs (M := 170) (pc := 14) (M' := 123) (k := 3) (kd := 1) (zd_eq zk170 (by decide +kernel : decode cX7_need 14 = .ok (.invokestatic 49, 3))) zWd123 (zl_m zo170 zy123 zw_880) (zl_s zy123 zw_881)) <|
  zcons (a := (17, zi_b1 (fun x => ¬ x = 0) 22 20)) (zs_ifne (M := 170) (pc := 17) (zd_eq zk170 (by decide +kernel : decode cX7_need 17 = .ok (.ifCond .ne 5, 3))) (by decide)) <|
  zcons (a := (20, zi_k (.int (-1)) 21)) (zs_iconst (M := 170) (pc := 20) (zd_eq zk170 (by decide +kernel : decode cX7_need 20 = .ok (.iconst (-1), 1))) (by decide)) <|
  zcons (a := (21, zi_ri)) (zs_ri (M := 170) (pc := 21) (zd_eq zk170 (by decide +kernel : decode cX7_need 21 = .ok (.ireturn, 1))) rfl) <|
  zcons (a := (22, zi_k (.int 0) 23)) (zs_iconst (M := 170) (pc := 22) (zd_eq zk170 (by decide +kernel : decode cX7_need 22 = .ok (.iconst 0, 1))) (by decide)) <|
  zcons (a := (23, zi_is 3 24)) (zs_is_n (M := 170) (pc := 23) (zd_eq zk170 (by decide +kernel : decode cX7_need 23 = .ok (.istore_n 3, 1))) (by decide +kernel) (by decide +kernel)) <|
  zcons (a := (24, zi_il 3 25)) (zs_il_n (M := 170) (pc := 24) (zd_eq zk170 (by decide +kernel : decode cX7_need 24 = .ok (.iload_n 3, 1)))) <|
  zcons (a := (25, zi_k (.int 99) 27)) (zs_bipush (M := 170) (pc := 25) (zd_eq zk170 (by decide +kernel : decode cX7_need 25 = .ok (.bipush 99, 2))) (by decide)) <|
  zcons (a := (27, zi_b2 (fun x y => y < x) 78 30)) (zs_icmpgt (M := 170) (pc := 27) (zd_eq zk170 (by decide +kernel : decode cX7_need 27 = .ok (.if_icmp .gt 51, 3))) (by decide)) <|
  zcons (a := (30, zi_al 0 31)) (zs_al_n (M := 170) (pc := 30) (zd_eq zk170 (by decide +kernel : decode cX7_need 30 = .ok (.aload_n 0, 1)))) <|
  zcons (a := (31, zi_k (.int 0) 32)) (zs_iconst (M := 170) (pc := 31) (zd_eq zk170 (by decide +kernel : decode cX7_need 31 = .ok (.iconst 0, 1))) (by decide)) <|
  zcons (a := (32, zi_k (.int 155) 35)) (zs_sipush (M := 170) (pc := 32) (zd_eq zk170 (by decide +kernel : decode cX7_need 32 = .ok (.sipush 155, 3))) (by decide)) <|
  zcons (a := (35, zi_cv 160 2 7 38 0)) (zs_cv (M := 170) (pc := 35) (M' := 160) (k := 2) (kd := 0) (ci := 7) (q := (RX7, TX7, 26)) (zd_eq zk170 (by decide +kernel : decode cX7_need 35 = .ok (.invokevirtual 182, 3))) zWd160 (zl_m zo170 zy160 zw_1043) (zl_i zy160 zw_1045) (zl_e zy160 zw_42) (by decide) rfl (by rw [zo160])) <|
  zcons (a := (38, zi_al 0 39)) (zs_al_n (M := 170) (pc := 38) (zd_eq zk170 (by decide +kernel : decode cX7_need 38 = .ok (.aload_n 0, 1)))) <|
  zcons (a := (39, zi_gr 7 0 42)) (zs_gr (M := 170) (pc := 39) (n := 0) (ci := 7) (k := 0) (C := RX7) (T := TX7) (N := 26) (zd_eq zk170 (by decide +kernel : decode cX7_need 39 = .ok (.getfield 7, 3))) rfl (by decide) (by decide) zin_7 (zl_f zo170 zw_796)) <|
  zcons (a := (42, zi_k (.int 160) 45)) (zs_sipush (M := 170) (pc := 42) (zd_eq zk170 (by decide +kernel : decode cX7_need 42 = .ok (.sipush 160, 3))) (by decide)) <| znil
theorem zS170_1 : ∀ q ∈ zm_c170_1, zm_Snd 170 q.1 q.2 :=
  zcons (a := (45, zi_il 1 46)) (zs_il_n (M := 170) (pc := 45) (zd_eq zk170 (by decide +kernel : decode cX7_need 45 = .ok (.iload_n 1, 1)))) <|
  zcons (a := (46, zi_bin (· + ·) 47)) (zs_iadd (M := 170) (pc := 46) (zd_eq zk170 (by decide +kernel : decode cX7_need 46 = .ok (.iadd, 1)))) <|
  zcons (a := (47, zi_il 3 48)) (zs_il_n (M := 170) (pc := 47) (zd_eq zk170 (by decide +kernel : decode cX7_need 47 = .ok (.iload_n 3, 1)))) <|
  zcons (a := (48, zi_ast 0 (fun x => x) 49)) (zs_iast (M := 170) (pc := 48) (zd_eq zk170 (by decide +kernel : decode cX7_need 48 = .ok (.iastore, 1)))) <|
  zcons (a := (49, zi_al 0 50)) (zs_al_n (M := 170) (pc := 49) (zd_eq zk170 (by decide +kernel : decode cX7_need 49 = .ok (.aload_n 0, 1)))) <|
  zcons (a := (50, zi_k (.int 155) 53)) (zs_sipush (M := 170) (pc := 50) (zd_eq zk170 (by decide +kernel : decode cX7_need 50 = .ok (.sipush 155, 3))) (by decide)) <|
  zcons (a := (53, zi_il 2 54)) (zs_il_n (M := 170) (pc := 53) (zd_eq zk170 (by decide +kernel : decode cX7_need 53 = .ok (.iload_n 2, 1)))) <|
  zcons (a := (54, zi_cv 161 2 7 57 0)) (zs_cv (M := 170) (pc := 54) (M' := 161) (k := 2) (kd := 0) (ci := 7) (q := (RX7, TX7, 26)) (zd_eq zk170 (by decide +kernel : decode cX7_need 54 = .ok (.invokevirtual 197, 3))) zWd161 (zl_m zo170 zy161 zw_1039) (zl_i zy161 zw_1041) (zl_e zy161 zw_41) (by decide) rfl (by rw [zo161])) <|
  zcons (a := (57, zi_al 0 58)) (zs_al_n (M := 170) (pc := 57) (zd_eq zk170 (by decide +kernel : decode cX7_need 57 = .ok (.aload_n 0, 1)))) <|
  zcons (a := (58, zi_gr 7 0 61)) (zs_gr (M := 170) (pc := 58) (n := 0) (ci := 7) (k := 0) (C := RX7) (T := TX7) (N := 26) (zd_eq zk170 (by decide +kernel : decode cX7_need 58 = .ok (.getfield 7, 3))) rfl (by decide) (by decide) zin_7 (zl_f zo170 zw_796)) <|
  zcons (a := (61, zi_k (.int 129) 64)) (zs_sipush (M := 170) (pc := 61) (zd_eq zk170 (by decide +kernel : decode cX7_need 61 = .ok (.sipush 129, 3))) (by decide)) <|
  zcons (a := (64, zi_il 1 65)) (zs_il_n (M := 170) (pc := 64) (zd_eq zk170 (by decide +kernel : decode cX7_need 64 = .ok (.iload_n 1, 1)))) <|
  zcons (a := (65, zi_bin (· + ·) 66)) (zs_iadd (M := 170) (pc := 65) (zd_eq zk170 (by decide +kernel : decode cX7_need 65 = .ok (.iadd, 1)))) <|
  zcons (a := (66, zi_ald 0 67)) (zs_iald (M := 170) (pc := 66) (zd_eq zk170 (by decide +kernel : decode cX7_need 66 = .ok (.iaload, 1)))) <|
  zcons (a := (67, zi_b1 (fun x => x ≤ 0) 72 70)) (zs_ifle (M := 170) (pc := 67) (zd_eq zk170 (by decide +kernel : decode cX7_need 67 = .ok (.ifCond .le 5, 3))) (by decide)) <|
  zcons (a := (70, zi_il 3 71)) (zs_il_n (M := 170) (pc := 70) (zd_eq zk170 (by decide +kernel : decode cX7_need 70 = .ok (.iload_n 3, 1)))) <|
  zcons (a := (71, zi_ri)) (zs_ri (M := 170) (pc := 71) (zd_eq zk170 (by decide +kernel : decode cX7_need 71 = .ok (.ireturn, 1))) rfl) <|
  zcons (a := (72, zi_inc 3 1 75)) (zs_inc (M := 170) (pc := 72) (zd_eq zk170 (by decide +kernel : decode cX7_need 72 = .ok (.iinc 3 1, 3))) (by decide) (by decide +kernel) (by decide +kernel)) <|
  zcons (a := (75, zi_go 24)) (zs_goto (M := 170) (pc := 75) (zd_eq zk170 (by decide +kernel : decode cX7_need 75 = .ok (.goto (-51), 3))) (by decide)) <|
  zcons (a := (78, zi_k (.int (-4)) 80)) (zs_bipush (M := 170) (pc := 78) (zd_eq zk170 (by decide +kernel : decode cX7_need 78 = .ok (.bipush (-4), 2))) (by decide)) <|
  zcons (a := (80, zi_ri)) (zs_ri (M := 170) (pc := 80) (zd_eq zk170 (by decide +kernel : decode cX7_need 80 = .ok (.ireturn, 1))) rfl) <| znil
theorem zS170 : ∀ pc, zm_Snd 170 pc (zm_lk2 zm_c170 pc) := zlk2 (zcons2 zS170_0 (zcons2 zS170_1 (znil2)))
theorem zS171_0 : ∀ q ∈ zm_c171_0, zm_Snd 171 q.1 q.2 :=
  zcons (a := (0, zi_il 1 1)) (zs_il_n (M := 171) (pc := 0) (zd_eq zk171 (by decide +kernel : decode cX7_bucket 0 = .ok (.iload_n 1, 1)))) <|
  zcons (a := (1, zi_i2l 2)) (zs_i2l (M := 171) (pc := 1) (zd_eq zk171 (by decide +kernel : decode cX7_bucket 1 = .ok (.i2l, 1)))) <|
  zcons (a := (2, zi_k (.long 0) 3)) (zs_lconst (M := 171) (pc := 2) (zd_eq zk171 (by decide +kernel : decode cX7_bucket 2 = .ok (.lconst 0, 1))) (by decide)) <|
  zcons (a := (3, zi_k (.long 1) 4)) (zs_lconst (M := 171) (pc := 3) (zd_eq zk171 (by decide +kernel : decode cX7_bucket 3 = .ok (.lconst 1, 1))) (by decide)) <|
  zcons (a := (4, zi_cs 123 3 7 1)) (zs_cs (M := 171) (pc := 4) (M' := 123) (k := 3) (kd := 1) (zd_eq zk171 (by decide +kernel : decode cX7_bucket 4 = .ok (.invokestatic 49, 3))) zWd123 (zl_m zo171 zy123 zw_880) (zl_s zy123 zw_881)) <|
  zcons (a := (7, zi_b1 (fun x => ¬ x = 0) 12 10)) (zs_ifne (M := 171) (pc := 7) (zd_eq zk171 (by decide +kernel : decode cX7_bucket 7 = .ok (.ifCond .ne 5, 3))) (by decide)) <|
  zcons (a := (10, zi_k (.int (-1)) 11)) (zs_iconst (M := 171) (pc := 10) (zd_eq zk171 (by decide +kernel : decode cX7_bucket 10 = .ok (.iconst (-1), 1))) (by decide)) <|
  zcons (a := (11, zi_ri)) (zs_ri (M := 171) (pc := 11) (zd_eq zk171 (by decide +kernel : decode cX7_bucket 11 = .ok (.ireturn, 1))) rfl) <|
  zcons (a := (12, zi_al 0 13)) (zs_al_n (M := 171) (pc := 12) (zd_eq zk171 (by decide +kernel : decode cX7_bucket 12 = .ok (.aload_n 0, 1)))) <|
  zcons (a := (13, zi_k (.int 0) 14)) (zs_iconst (M := 171) (pc := 13) (zd_eq zk171 (by decide +kernel : decode cX7_bucket 13 = .ok (.iconst 0, 1))) (by decide)) <|
  zcons (a := (14, zi_k (.int 60) 16)) (zs_bipush (M := 171) (pc := 14) (zd_eq zk171 (by decide +kernel : decode cX7_bucket 14 = .ok (.bipush 60, 2))) (by decide)) <|
  zcons (a := (16, zi_cv 161 2 7 19 0)) (zs_cv (M := 171) (pc := 16) (M' := 161) (k := 2) (kd := 0) (ci := 7) (q := (RX7, TX7, 26)) (zd_eq zk171 (by decide +kernel : decode cX7_bucket 16 = .ok (.invokevirtual 197, 3))) zWd161 (zl_m zo171 zy161 zw_1039) (zl_i zy161 zw_1041) (zl_e zy161 zw_41) (by decide) rfl (by rw [zo161])) <|
  zcons (a := (19, zi_al 0 20)) (zs_al_n (M := 171) (pc := 19) (zd_eq zk171 (by decide +kernel : decode cX7_bucket 19 = .ok (.aload_n 0, 1)))) <|
  zcons (a := (20, zi_gi 7 14 23)) (zs_gi (M := 171) (pc := 20) (n := 0) (ci := 7) (k := 14) (C := RX7) (T := TX7) (N := 26) (zd_eq zk171 (by decide +kernel : decode cX7_bucket 20 = .ok (.getfield 186, 3))) rfl (by decide) (by decide) zin_7 (zl_f zo171 zw_810)) <|
  zcons (a := (23, zi_is 2 24)) (zs_is_n (M := 171) (pc := 23) (zd_eq zk171 (by decide +kernel : decode cX7_bucket 23 = .ok (.istore_n 2, 1))) (by decide +kernel) (by decide +kernel)) <|
  zcons (a := (24, zi_k (.int (-4)) 26)) (zs_bipush (M := 171) (pc := 24) (zd_eq zk171 (by decide +kernel : decode cX7_bucket 24 = .ok (.bipush (-4), 2))) (by decide)) <|
  zcons (a := (26, zi_is 3 27)) (zs_is_n (M := 171) (pc := 26) (zd_eq zk171 (by decide +kernel : decode cX7_bucket 26 = .ok (.istore_n 3, 1))) (by decide +kernel) (by decide +kernel)) <|
  zcons (a := (27, zi_k (.int 0) 28)) (zs_iconst (M := 171) (pc := 27) (zd_eq zk171 (by decide +kernel : decode cX7_bucket 27 = .ok (.iconst 0, 1))) (by decide)) <|
  zcons (a := (28, zi_is 4 30)) (zs_is_w (M := 171) (pc := 28) (zd_eq zk171 (by decide +kernel : decode cX7_bucket 28 = .ok (.istore 4, 2))) (by decide +kernel) (by decide +kernel)) <|
  zcons (a := (30, zi_il 4 32)) (zs_il_w (M := 171) (pc := 30) (zd_eq zk171 (by decide +kernel : decode cX7_bucket 30 = .ok (.iload 4, 2)))) <|
  zcons (a := (32, zi_al 0 33)) (zs_al_n (M := 171) (pc := 32) (zd_eq zk171 (by decide +kernel : decode cX7_bucket 32 = .ok (.aload_n 0, 1)))) <|
  zcons (a := (33, zi_gr 7 0 36)) (zs_gr (M := 171) (pc := 33) (n := 0) (ci := 7) (k := 0) (C := RX7) (T := TX7) (N := 26) (zd_eq zk171 (by decide +kernel : decode cX7_bucket 33 = .ok (.getfield 7, 3))) rfl (by decide) (by decide) zin_7 (zl_f zo171 zw_796)) <|
  zcons (a := (36, zi_k (.int 15) 38)) (zs_bipush (M := 171) (pc := 36) (zd_eq zk171 (by decide +kernel : decode cX7_bucket 36 = .ok (.bipush 15, 2))) (by decide)) <|
  zcons (a := (38, zi_ald 0 39)) (zs_iald (M := 171) (pc := 38) (zd_eq zk171 (by decide +kernel : decode cX7_bucket 38 = .ok (.iaload, 1)))) <| znil
theorem zS171_1 : ∀ q ∈ zm_c171_1, zm_Snd 171 q.1 q.2 :=
  zcons (a := (39, zi_b2 (fun x y => y ≤ x) 121 42)) (zs_icmpge (M := 171) (pc := 39) (zd_eq zk171 (by decide +kernel : decode cX7_bucket 39 = .ok (.if_icmp .ge 82, 3))) (by decide)) <|
  zcons (a := (42, zi_al 0 43)) (zs_al_n (M := 171) (pc := 42) (zd_eq zk171 (by decide +kernel : decode cX7_bucket 42 = .ok (.aload_n 0, 1)))) <|
  zcons (a := (43, zi_gr 7 0 46)) (zs_gr (M := 171) (pc := 43) (n := 0) (ci := 7) (k := 0) (C := RX7) (T := TX7) (N := 26) (zd_eq zk171 (by decide +kernel : decode cX7_bucket 43 = .ok (.getfield 7, 3))) rfl (by decide) (by decide) zin_7 (zl_f zo171 zw_796)) <|
  zcons (a := (46, zi_k (.int 5) 47)) (zs_iconst (M := 171) (pc := 46) (zd_eq zk171 (by decide +kernel : decode cX7_bucket 46 = .ok (.iconst 5, 1))) (by decide)) <|
  zcons (a := (47, zi_il 4 49)) (zs_il_w (M := 171) (pc := 47) (zd_eq zk171 (by decide +kernel : decode cX7_bucket 47 = .ok (.iload 4, 2)))) <|
  zcons (a := (49, zi_bin (· + ·) 50)) (zs_iadd (M := 171) (pc := 49) (zd_eq zk171 (by decide +kernel : decode cX7_bucket 49 = .ok (.iadd, 1)))) <|
  zcons (a := (50, zi_ald 0 51)) (zs_iald (M := 171) (pc := 50) (zd_eq zk171 (by decide +kernel : decode cX7_bucket 50 = .ok (.iaload, 1)))) <|
  zcons (a := (51, zi_b1 (fun x => x ≤ 0) 115 54)) (zs_ifle (M := 171) (pc := 51) (zd_eq zk171 (by decide +kernel : decode cX7_bucket 51 = .ok (.ifCond .le 64, 3))) (by decide)) <|
  zcons (a := (54, zi_al 0 55)) (zs_al_n (M := 171) (pc := 54) (zd_eq zk171 (by decide +kernel : decode cX7_bucket 54 = .ok (.aload_n 0, 1)))) <|
  zcons (a := (55, zi_k (.int 0) 56)) (zs_iconst (M := 171) (pc := 55) (zd_eq zk171 (by decide +kernel : decode cX7_bucket 55 = .ok (.iconst 0, 1))) (by decide)) <|
  zcons (a := (56, zi_k (.int 155) 59)) (zs_sipush (M := 171) (pc := 56) (zd_eq zk171 (by decide +kernel : decode cX7_bucket 56 = .ok (.sipush 155, 3))) (by decide)) <|
  zcons (a := (59, zi_cv 160 2 7 62 0)) (zs_cv (M := 171) (pc := 59) (M' := 160) (k := 2) (kd := 0) (ci := 7) (q := (RX7, TX7, 26)) (zd_eq zk171 (by decide +kernel : decode cX7_bucket 59 = .ok (.invokevirtual 182, 3))) zWd160 (zl_m zo171 zy160 zw_1043) (zl_i zy160 zw_1045) (zl_e zy160 zw_42) (by decide) rfl (by rw [zo160])) <|
  zcons (a := (62, zi_al 0 63)) (zs_al_n (M := 171) (pc := 62) (zd_eq zk171 (by decide +kernel : decode cX7_bucket 62 = .ok (.aload_n 0, 1)))) <|
  zcons (a := (63, zi_gr 7 0 66)) (zs_gr (M := 171) (pc := 63) (n := 0) (ci := 7) (k := 0) (C := RX7) (T := TX7) (N := 26) (zd_eq zk171 (by decide +kernel : decode cX7_bucket 63 = .ok (.getfield 7, 3))) rfl (by decide) (by decide) zin_7 (zl_f zo171 zw_796)) <|
  zcons (a := (66, zi_k (.int 155) 69)) (zs_sipush (M := 171) (pc := 66) (zd_eq zk171 (by decide +kernel : decode cX7_bucket 66 = .ok (.sipush 155, 3))) (by decide)) <|
  zcons (a := (69, zi_il 4 71)) (zs_il_w (M := 171) (pc := 69) (zd_eq zk171 (by decide +kernel : decode cX7_bucket 69 = .ok (.iload 4, 2)))) <|
  zcons (a := (71, zi_bin (· + ·) 72)) (zs_iadd (M := 171) (pc := 71) (zd_eq zk171 (by decide +kernel : decode cX7_bucket 71 = .ok (.iadd, 1)))) <|
  zcons (a := (72, zi_k (.int 3) 73)) (zs_iconst (M := 171) (pc := 72) (zd_eq zk171 (by decide +kernel : decode cX7_bucket 72 = .ok (.iconst 3, 1))) (by decide)) <|
  zcons (a := (73, zi_ast 0 (fun x => x) 74)) (zs_iast (M := 171) (pc := 73) (zd_eq zk171 (by decide +kernel : decode cX7_bucket 73 = .ok (.iastore, 1)))) <|
  zcons (a := (74, zi_al 0 75)) (zs_al_n (M := 171) (pc := 74) (zd_eq zk171 (by decide +kernel : decode cX7_bucket 74 = .ok (.aload_n 0, 1)))) <|
  zcons (a := (75, zi_k (.int 155) 78)) (zs_sipush (M := 171) (pc := 75) (zd_eq zk171 (by decide +kernel : decode cX7_bucket 75 = .ok (.sipush 155, 3))) (by decide)) <|
  zcons (a := (78, zi_k (.int 60) 80)) (zs_bipush (M := 171) (pc := 78) (zd_eq zk171 (by decide +kernel : decode cX7_bucket 78 = .ok (.bipush 60, 2))) (by decide)) <|
  zcons (a := (80, zi_cv 161 2 7 83 0)) (zs_cv (M := 171) (pc := 80) (M' := 161) (k := 2) (kd := 0) (ci := 7) (q := (RX7, TX7, 26)) (zd_eq zk171 (by decide +kernel : decode cX7_bucket 80 = .ok (.invokevirtual 197, 3))) zWd161 (zl_m zo171 zy161 zw_1039) (zl_i zy161 zw_1041) (zl_e zy161 zw_41) (by decide) rfl (by rw [zo161])) <|
  zcons (a := (83, zi_al 0 84)) (zs_al_n (M := 171) (pc := 83) (zd_eq zk171 (by decide +kernel : decode cX7_bucket 83 = .ok (.aload_n 0, 1)))) <| znil
theorem zS171_2 : ∀ q ∈ zm_c171_2, zm_Snd 171 q.1 q.2 :=
  zcons (a := (84, zi_gi 7 14 87)) (zs_gi (M := 171) (pc := 84) (n := 0) (ci := 7) (k := 14) (C := RX7) (T := TX7) (N := 26) (zd_eq zk171 (by decide +kernel : decode cX7_bucket 84 = .ok (.getfield 186, 3))) rfl (by decide) (by decide) zin_7 (zl_f zo171 zw_810)) <|
  zcons (a := (87, zi_il 2 88)) (zs_il_n (M := 171) (pc := 87) (zd_eq zk171 (by decide +kernel : decode cX7_bucket 87 = .ok (.iload_n 2, 1)))) <|
  zcons (a := (88, zi_b2 (fun x y => y ≤ x) 96 91)) (zs_icmpge (M := 171) (pc := 88) (zd_eq zk171 (by decide +kernel : decode cX7_bucket 88 = .ok (.if_icmp .ge 8, 3))) (by decide)) <|
  zcons (a := (91, zi_il 4 93)) (zs_il_w (M := 171) (pc := 91) (zd_eq zk171 (by decide +kernel : decode cX7_bucket 91 = .ok (.iload 4, 2)))) <|
  zcons (a := (93, zi_go 97)) (zs_goto (M := 171) (pc := 93) (zd_eq zk171 (by decide +kernel : decode cX7_bucket 93 = .ok (.goto 4, 3))) (by decide)) <|
  zcons (a := (96, zi_il 3 97)) (zs_il_n (M := 171) (pc := 96) (zd_eq zk171 (by decide +kernel : decode cX7_bucket 96 = .ok (.iload_n 3, 1)))) <|
  zcons (a := (97, zi_is 3 98)) (zs_is_n (M := 171) (pc := 97) (zd_eq zk171 (by decide +kernel : decode cX7_bucket 97 = .ok (.istore_n 3, 1))) (by decide +kernel) (by decide +kernel)) <|
  zcons (a := (98, zi_al 0 99)) (zs_al_n (M := 171) (pc := 98) (zd_eq zk171 (by decide +kernel : decode cX7_bucket 98 = .ok (.aload_n 0, 1)))) <|
  zcons (a := (99, zi_gi 7 14 102)) (zs_gi (M := 171) (pc := 99) (n := 0) (ci := 7) (k := 14) (C := RX7) (T := TX7) (N := 26) (zd_eq zk171 (by decide +kernel : decode cX7_bucket 99 = .ok (.getfield 186, 3))) rfl (by decide) (by decide) zin_7 (zl_f zo171 zw_810)) <|
  zcons (a := (102, zi_il 2 103)) (zs_il_n (M := 171) (pc := 102) (zd_eq zk171 (by decide +kernel : decode cX7_bucket 102 = .ok (.iload_n 2, 1)))) <|
  zcons (a := (103, zi_b2 (fun x y => y ≤ x) 113 106)) (zs_icmpge (M := 171) (pc := 103) (zd_eq zk171 (by decide +kernel : decode cX7_bucket 103 = .ok (.if_icmp .ge 10, 3))) (by decide)) <|
  zcons (a := (106, zi_al 0 107)) (zs_al_n (M := 171) (pc := 106) (zd_eq zk171 (by decide +kernel : decode cX7_bucket 106 = .ok (.aload_n 0, 1)))) <|
  zcons (a := (107, zi_gi 7 14 110)) (zs_gi (M := 171) (pc := 107) (n := 0) (ci := 7) (k := 14) (C := RX7) (T := TX7) (N := 26) (zd_eq zk171 (by decide +kernel : decode cX7_bucket 107 = .ok (.getfield 186, 3))) rfl (by decide) (by decide) zin_7 (zl_f zo171 zw_810)) <|
  zcons (a := (110, zi_go 114)) (zs_goto (M := 171) (pc := 110) (zd_eq zk171 (by decide +kernel : decode cX7_bucket 110 = .ok (.goto 4, 3))) (by decide)) <|
  zcons (a := (113, zi_il 2 114)) (zs_il_n (M := 171) (pc := 113) (zd_eq zk171 (by decide +kernel : decode cX7_bucket 113 = .ok (.iload_n 2, 1)))) <|
  zcons (a := (114, zi_is 2 115)) (zs_is_n (M := 171) (pc := 114) (zd_eq zk171 (by decide +kernel : decode cX7_bucket 114 = .ok (.istore_n 2, 1))) (by decide +kernel) (by decide +kernel)) <|
  zcons (a := (115, zi_inc 4 1 118)) (zs_inc (M := 171) (pc := 115) (zd_eq zk171 (by decide +kernel : decode cX7_bucket 115 = .ok (.iinc 4 1, 3))) (by decide) (by decide +kernel) (by decide +kernel)) <|
  zcons (a := (118, zi_go 30)) (zs_goto (M := 171) (pc := 118) (zd_eq zk171 (by decide +kernel : decode cX7_bucket 118 = .ok (.goto (-88), 3))) (by decide)) <|
  zcons (a := (121, zi_il 3 122)) (zs_il_n (M := 171) (pc := 121) (zd_eq zk171 (by decide +kernel : decode cX7_bucket 121 = .ok (.iload_n 3, 1)))) <|
  zcons (a := (122, zi_k (.int (-4)) 124)) (zs_bipush (M := 171) (pc := 122) (zd_eq zk171 (by decide +kernel : decode cX7_bucket 122 = .ok (.bipush (-4), 2))) (by decide)) <|
  zcons (a := (124, zi_b2 (fun x y => x = y) 131 127)) (zs_icmpeq (M := 171) (pc := 124) (zd_eq zk171 (by decide +kernel : decode cX7_bucket 124 = .ok (.if_icmp .eq 7, 3))) (by decide)) <|
  zcons (a := (127, zi_il 1 128)) (zs_il_n (M := 171) (pc := 127) (zd_eq zk171 (by decide +kernel : decode cX7_bucket 127 = .ok (.iload_n 1, 1)))) <|
  zcons (a := (128, zi_b1 (fun x => ¬ x = 0) 135 131)) (zs_ifne (M := 171) (pc := 128) (zd_eq zk171 (by decide +kernel : decode cX7_bucket 128 = .ok (.ifCond .ne 7, 3))) (by decide)) <|
  zcons (a := (131, zi_il 3 132)) (zs_il_n (M := 171) (pc := 131) (zd_eq zk171 (by decide +kernel : decode cX7_bucket 131 = .ok (.iload_n 3, 1)))) <| znil
theorem zS171_3 : ∀ q ∈ zm_c171_3, zm_Snd 171 q.1 q.2 :=
  zcons (a := (132, zi_go 136)) (zs_goto (M := 171) (pc := 132) (zd_eq zk171 (by decide +kernel : decode cX7_bucket 132 = .ok (.goto 4, 3))) (by decide)) <|
  zcons (a := (135, zi_il 2 136)) (zs_il_n (M := 171) (pc := 135) (zd_eq zk171 (by decide +kernel : decode cX7_bucket 135 = .ok (.iload_n 2, 1)))) <|
  zcons (a := (136, zi_ri)) (zs_ri (M := 171) (pc := 136) (zd_eq zk171 (by decide +kernel : decode cX7_bucket 136 = .ok (.ireturn, 1))) rfl) <| znil
theorem zS171 : ∀ pc, zm_Snd 171 pc (zm_lk2 zm_c171 pc) := zlk2 (zcons2 zS171_0 (zcons2 zS171_1 (zcons2 zS171_2 (zcons2 zS171_3 (znil2)))))
theorem zS172_0 : ∀ q ∈ zm_c172_0, zm_Snd 172 q.1 q.2 :=
  zcons (a := (0, zi_il 1 1)) (zs_il_n (M := 172) (pc := 0) (zd_eq zk172 (by decide +kernel : decode cX7_swap 0 = .ok (.iload_n 1, 1)))) <|
  zcons (a := (1, zi_i2l 2)) (zs_i2l (M := 172) (pc := 1) (zd_eq zk172 (by decide +kernel : decode cX7_swap 1 = .ok (.i2l, 1)))) <|
  zcons (a := (2, zi_k (.long 1) 3)) (zs_lconst (M := 172) (pc := 2) (zd_eq zk172 (by decide +kernel : decode cX7_swap 2 = .ok (.lconst 1, 1))) (by decide)) <|
  zcons (a := (3, zi_k (.long 60) 6)) (zs_ldc2 (M := 172) (pc := 3) (zd_eq zk172 (by decide +kernel : decode cX7_swap 3 = .ok (.ldc2_w 195, 3))) (zl_k2 zo172 zw_1038)) <|
  zcons (a := (6, zi_cs 123 3 9 1)) (zs_cs (M := 172) (pc := 6) (M' := 123) (k := 3) (kd := 1) (zd_eq zk172 (by decide +kernel : decode cX7_swap 6 = .ok (.invokestatic 49, 3))) zWd123 (zl_m zo172 zy123 zw_880) (zl_s zy123 zw_881)) <|
  zcons (a := (9, zi_b1 (fun x => x = 0) 22 12)) (zs_ifeq (M := 172) (pc := 9) (zd_eq zk172 (by decide +kernel : decode cX7_swap 9 = .ok (.ifCond .eq 13, 3))) (by decide)) <|
  zcons (a := (12, zi_il 2 13)) (zs_il_n (M := 172) (pc := 12) (zd_eq zk172 (by decide +kernel : decode cX7_swap 12 = .ok (.iload_n 2, 1)))) <|
  zcons (a := (13, zi_i2l 14)) (zs_i2l (M := 172) (pc := 13) (zd_eq zk172 (by decide +kernel : decode cX7_swap 13 = .ok (.i2l, 1)))) <|
  zcons (a := (14, zi_k (.long 0) 15)) (zs_lconst (M := 172) (pc := 14) (zd_eq zk172 (by decide +kernel : decode cX7_swap 14 = .ok (.lconst 0, 1))) (by decide)) <|
  zcons (a := (15, zi_k (.long 1) 16)) (zs_lconst (M := 172) (pc := 15) (zd_eq zk172 (by decide +kernel : decode cX7_swap 15 = .ok (.lconst 1, 1))) (by decide)) <|
  zcons (a := (16, zi_cs 123 3 19 1)) (zs_cs (M := 172) (pc := 16) (M' := 123) (k := 3) (kd := 1) (zd_eq zk172 (by decide +kernel : decode cX7_swap 16 = .ok (.invokestatic 49, 3))) zWd123 (zl_m zo172 zy123 zw_880) (zl_s zy123 zw_881)) <|
  zcons (a := (19, zi_b1 (fun x => ¬ x = 0) 24 22)) (zs_ifne (M := 172) (pc := 19) (zd_eq zk172 (by decide +kernel : decode cX7_swap 19 = .ok (.ifCond .ne 5, 3))) (by decide)) <|
  zcons (a := (22, zi_k (.int (-1)) 23)) (zs_iconst (M := 172) (pc := 22) (zd_eq zk172 (by decide +kernel : decode cX7_swap 22 = .ok (.iconst (-1), 1))) (by decide)) <|
  zcons (a := (23, zi_ri)) (zs_ri (M := 172) (pc := 23) (zd_eq zk172 (by decide +kernel : decode cX7_swap 23 = .ok (.ireturn, 1))) rfl) <|
  zcons (a := (24, zi_al 0 25)) (zs_al_n (M := 172) (pc := 24) (zd_eq zk172 (by decide +kernel : decode cX7_swap 24 = .ok (.aload_n 0, 1)))) <|
  zcons (a := (25, zi_k (.int 0) 26)) (zs_iconst (M := 172) (pc := 25) (zd_eq zk172 (by decide +kernel : decode cX7_swap 25 = .ok (.iconst 0, 1))) (by decide)) <|
  zcons (a := (26, zi_il 1 27)) (zs_il_n (M := 172) (pc := 26) (zd_eq zk172 (by decide +kernel : decode cX7_swap 26 = .ok (.iload_n 1, 1)))) <|
  zcons (a := (27, zi_cv 161 2 7 30 0)) (zs_cv (M := 172) (pc := 27) (M' := 161) (k := 2) (kd := 0) (ci := 7) (q := (RX7, TX7, 26)) (zd_eq zk172 (by decide +kernel : decode cX7_swap 27 = .ok (.invokevirtual 197, 3))) zWd161 (zl_m zo172 zy161 zw_1039) (zl_i zy161 zw_1041) (zl_e zy161 zw_41) (by decide) rfl (by rw [zo161])) <|
  zcons (a := (30, zi_al 0 31)) (zs_al_n (M := 172) (pc := 30) (zd_eq zk172 (by decide +kernel : decode cX7_swap 30 = .ok (.aload_n 0, 1)))) <|
  zcons (a := (31, zi_gi 7 16 34)) (zs_gi (M := 172) (pc := 31) (n := 0) (ci := 7) (k := 16) (C := RX7) (T := TX7) (N := 26) (zd_eq zk172 (by decide +kernel : decode cX7_swap 31 = .ok (.getfield 192, 3))) rfl (by decide) (by decide) zin_7 (zl_f zo172 zw_812)) <|
  zcons (a := (34, zi_is 3 35)) (zs_is_n (M := 172) (pc := 34) (zd_eq zk172 (by decide +kernel : decode cX7_swap 34 = .ok (.istore_n 3, 1))) (by decide +kernel) (by decide +kernel)) <|
  zcons (a := (35, zi_k (.int (-4)) 37)) (zs_bipush (M := 172) (pc := 35) (zd_eq zk172 (by decide +kernel : decode cX7_swap 35 = .ok (.bipush (-4), 2))) (by decide)) <|
  zcons (a := (37, zi_is 4 39)) (zs_is_w (M := 172) (pc := 37) (zd_eq zk172 (by decide +kernel : decode cX7_swap 37 = .ok (.istore 4, 2))) (by decide +kernel) (by decide +kernel)) <|
  zcons (a := (39, zi_k (.int 0) 40)) (zs_iconst (M := 172) (pc := 39) (zd_eq zk172 (by decide +kernel : decode cX7_swap 39 = .ok (.iconst 0, 1))) (by decide)) <| znil
theorem zS172_1 : ∀ q ∈ zm_c172_1, zm_Snd 172 q.1 q.2 :=
  zcons (a := (40, zi_is 5 42)) (zs_is_w (M := 172) (pc := 40) (zd_eq zk172 (by decide +kernel : decode cX7_swap 40 = .ok (.istore 5, 2))) (by decide +kernel) (by decide +kernel)) <|
  zcons (a := (42, zi_il 5 44)) (zs_il_w (M := 172) (pc := 42) (zd_eq zk172 (by decide +kernel : decode cX7_swap 42 = .ok (.iload 5, 2)))) <|
  zcons (a := (44, zi_al 0 45)) (zs_al_n (M := 172) (pc := 44) (zd_eq zk172 (by decide +kernel : decode cX7_swap 44 = .ok (.aload_n 0, 1)))) <|
  zcons (a := (45, zi_gr 7 0 48)) (zs_gr (M := 172) (pc := 45) (n := 0) (ci := 7) (k := 0) (C := RX7) (T := TX7) (N := 26) (zd_eq zk172 (by decide +kernel : decode cX7_swap 45 = .ok (.getfield 7, 3))) rfl (by decide) (by decide) zin_7 (zl_f zo172 zw_796)) <|
  zcons (a := (48, zi_k (.int 15) 50)) (zs_bipush (M := 172) (pc := 48) (zd_eq zk172 (by decide +kernel : decode cX7_swap 48 = .ok (.bipush 15, 2))) (by decide)) <|
  zcons (a := (50, zi_ald 0 51)) (zs_iald (M := 172) (pc := 50) (zd_eq zk172 (by decide +kernel : decode cX7_swap 50 = .ok (.iaload, 1)))) <|
  zcons (a := (51, zi_b2 (fun x y => y ≤ x) 204 54)) (zs_icmpge (M := 172) (pc := 51) (zd_eq zk172 (by decide +kernel : decode cX7_swap 51 = .ok (.if_icmp .ge 153, 3))) (by decide)) <|
  zcons (a := (54, zi_il 5 56)) (zs_il_w (M := 172) (pc := 54) (zd_eq zk172 (by decide +kernel : decode cX7_swap 54 = .ok (.iload 5, 2)))) <|
  zcons (a := (56, zi_k (.int 1) 57)) (zs_iconst (M := 172) (pc := 56) (zd_eq zk172 (by decide +kernel : decode cX7_swap 56 = .ok (.iconst 1, 1))) (by decide)) <|
  zcons (a := (57, zi_bin (· + ·) 58)) (zs_iadd (M := 172) (pc := 57) (zd_eq zk172 (by decide +kernel : decode cX7_swap 57 = .ok (.iadd, 1)))) <|
  zcons (a := (58, zi_is 6 60)) (zs_is_w (M := 172) (pc := 58) (zd_eq zk172 (by decide +kernel : decode cX7_swap 58 = .ok (.istore 6, 2))) (by decide +kernel) (by decide +kernel)) <|
  zcons (a := (60, zi_il 6 62)) (zs_il_w (M := 172) (pc := 60) (zd_eq zk172 (by decide +kernel : decode cX7_swap 60 = .ok (.iload 6, 2)))) <|
  zcons (a := (62, zi_al 0 63)) (zs_al_n (M := 172) (pc := 62) (zd_eq zk172 (by decide +kernel : decode cX7_swap 62 = .ok (.aload_n 0, 1)))) <|
  zcons (a := (63, zi_gr 7 0 66)) (zs_gr (M := 172) (pc := 63) (n := 0) (ci := 7) (k := 0) (C := RX7) (T := TX7) (N := 26) (zd_eq zk172 (by decide +kernel : decode cX7_swap 63 = .ok (.getfield 7, 3))) rfl (by decide) (by decide) zin_7 (zl_f zo172 zw_796)) <|
  zcons (a := (66, zi_k (.int 15) 68)) (zs_bipush (M := 172) (pc := 66) (zd_eq zk172 (by decide +kernel : decode cX7_swap 66 = .ok (.bipush 15, 2))) (by decide)) <|
  zcons (a := (68, zi_ald 0 69)) (zs_iald (M := 172) (pc := 68) (zd_eq zk172 (by decide +kernel : decode cX7_swap 68 = .ok (.iaload, 1)))) <|
  zcons (a := (69, zi_b2 (fun x y => y ≤ x) 198 72)) (zs_icmpge (M := 172) (pc := 69) (zd_eq zk172 (by decide +kernel : decode cX7_swap 69 = .ok (.if_icmp .ge 129, 3))) (by decide)) <|
  zcons (a := (72, zi_al 0 73)) (zs_al_n (M := 172) (pc := 72) (zd_eq zk172 (by decide +kernel : decode cX7_swap 72 = .ok (.aload_n 0, 1)))) <|
  zcons (a := (73, zi_k (.int 0) 74)) (zs_iconst (M := 172) (pc := 73) (zd_eq zk172 (by decide +kernel : decode cX7_swap 73 = .ok (.iconst 0, 1))) (by decide)) <|
  zcons (a := (74, zi_k (.int 155) 77)) (zs_sipush (M := 172) (pc := 74) (zd_eq zk172 (by decide +kernel : decode cX7_swap 74 = .ok (.sipush 155, 3))) (by decide)) <|
  zcons (a := (77, zi_cv 160 2 7 80 0)) (zs_cv (M := 172) (pc := 77) (M' := 160) (k := 2) (kd := 0) (ci := 7) (q := (RX7, TX7, 26)) (zd_eq zk172 (by decide +kernel : decode cX7_swap 77 = .ok (.invokevirtual 182, 3))) zWd160 (zl_m zo172 zy160 zw_1043) (zl_i zy160 zw_1045) (zl_e zy160 zw_42) (by decide) rfl (by rw [zo160])) <|
  zcons (a := (80, zi_k (.int 0) 81)) (zs_iconst (M := 172) (pc := 80) (zd_eq zk172 (by decide +kernel : decode cX7_swap 80 = .ok (.iconst 0, 1))) (by decide)) <|
  zcons (a := (81, zi_is 7 83)) (zs_is_w (M := 172) (pc := 81) (zd_eq zk172 (by decide +kernel : decode cX7_swap 81 = .ok (.istore 7, 2))) (by decide +kernel) (by decide +kernel)) <|
  zcons (a := (83, zi_il 7 85)) (zs_il_w (M := 172) (pc := 83) (zd_eq zk172 (by decide +kernel : decode cX7_swap 83 = .ok (.iload 7, 2)))) <| znil
theorem zS172_2 : ∀ q ∈ zm_c172_2, zm_Snd 172 q.1 q.2 :=
  zcons (a := (85, zi_k (.int 15) 87)) (zs_bipush (M := 172) (pc := 85) (zd_eq zk172 (by decide +kernel : decode cX7_swap 85 = .ok (.bipush 15, 2))) (by decide)) <|
  zcons (a := (87, zi_b2 (fun x y => y ≤ x) 144 90)) (zs_icmpge (M := 172) (pc := 87) (zd_eq zk172 (by decide +kernel : decode cX7_swap 87 = .ok (.if_icmp .ge 57, 3))) (by decide)) <|
  zcons (a := (90, zi_al 0 91)) (zs_al_n (M := 172) (pc := 90) (zd_eq zk172 (by decide +kernel : decode cX7_swap 90 = .ok (.aload_n 0, 1)))) <|
  zcons (a := (91, zi_gr 7 0 94)) (zs_gr (M := 172) (pc := 91) (n := 0) (ci := 7) (k := 0) (C := RX7) (T := TX7) (N := 26) (zd_eq zk172 (by decide +kernel : decode cX7_swap 91 = .ok (.getfield 7, 3))) rfl (by decide) (by decide) zin_7 (zl_f zo172 zw_796)) <|
  zcons (a := (94, zi_k (.int 155) 97)) (zs_sipush (M := 172) (pc := 94) (zd_eq zk172 (by decide +kernel : decode cX7_swap 94 = .ok (.sipush 155, 3))) (by decide)) <|
  zcons (a := (97, zi_il 7 99)) (zs_il_w (M := 172) (pc := 97) (zd_eq zk172 (by decide +kernel : decode cX7_swap 97 = .ok (.iload 7, 2)))) <|
  zcons (a := (99, zi_bin (· + ·) 100)) (zs_iadd (M := 172) (pc := 99) (zd_eq zk172 (by decide +kernel : decode cX7_swap 99 = .ok (.iadd, 1)))) <|
  zcons (a := (100, zi_il 5 102)) (zs_il_w (M := 172) (pc := 100) (zd_eq zk172 (by decide +kernel : decode cX7_swap 100 = .ok (.iload 5, 2)))) <|
  zcons (a := (102, zi_bin (· + ·) 103)) (zs_iadd (M := 172) (pc := 102) (zd_eq zk172 (by decide +kernel : decode cX7_swap 102 = .ok (.iadd, 1)))) <|
  zcons (a := (103, zi_al 0 104)) (zs_al_n (M := 172) (pc := 103) (zd_eq zk172 (by decide +kernel : decode cX7_swap 103 = .ok (.aload_n 0, 1)))) <|
  zcons (a := (104, zi_gr 7 0 107)) (zs_gr (M := 172) (pc := 104) (n := 0) (ci := 7) (k := 0) (C := RX7) (T := TX7) (N := 26) (zd_eq zk172 (by decide +kernel : decode cX7_swap 104 = .ok (.getfield 7, 3))) rfl (by decide) (by decide) zin_7 (zl_f zo172 zw_796)) <|
  zcons (a := (107, zi_il 7 109)) (zs_il_w (M := 172) (pc := 107) (zd_eq zk172 (by decide +kernel : decode cX7_swap 107 = .ok (.iload 7, 2)))) <|
  zcons (a := (109, zi_il 6 111)) (zs_il_w (M := 172) (pc := 109) (zd_eq zk172 (by decide +kernel : decode cX7_swap 109 = .ok (.iload 6, 2)))) <|
  zcons (a := (111, zi_bin (· + ·) 112)) (zs_iadd (M := 172) (pc := 111) (zd_eq zk172 (by decide +kernel : decode cX7_swap 111 = .ok (.iadd, 1)))) <|
  zcons (a := (112, zi_ald 0 113)) (zs_iald (M := 172) (pc := 112) (zd_eq zk172 (by decide +kernel : decode cX7_swap 112 = .ok (.iaload, 1)))) <|
  zcons (a := (113, zi_ast 0 (fun x => x) 114)) (zs_iast (M := 172) (pc := 113) (zd_eq zk172 (by decide +kernel : decode cX7_swap 113 = .ok (.iastore, 1)))) <|
  zcons (a := (114, zi_al 0 115)) (zs_al_n (M := 172) (pc := 114) (zd_eq zk172 (by decide +kernel : decode cX7_swap 114 = .ok (.aload_n 0, 1)))) <|
  zcons (a := (115, zi_gr 7 0 118)) (zs_gr (M := 172) (pc := 115) (n := 0) (ci := 7) (k := 0) (C := RX7) (T := TX7) (N := 26) (zd_eq zk172 (by decide +kernel : decode cX7_swap 115 = .ok (.getfield 7, 3))) rfl (by decide) (by decide) zin_7 (zl_f zo172 zw_796)) <|
  zcons (a := (118, zi_k (.int 155) 121)) (zs_sipush (M := 172) (pc := 118) (zd_eq zk172 (by decide +kernel : decode cX7_swap 118 = .ok (.sipush 155, 3))) (by decide)) <|
  zcons (a := (121, zi_il 7 123)) (zs_il_w (M := 172) (pc := 121) (zd_eq zk172 (by decide +kernel : decode cX7_swap 121 = .ok (.iload 7, 2)))) <|
  zcons (a := (123, zi_bin (· + ·) 124)) (zs_iadd (M := 172) (pc := 123) (zd_eq zk172 (by decide +kernel : decode cX7_swap 123 = .ok (.iadd, 1)))) <|
  zcons (a := (124, zi_il 6 126)) (zs_il_w (M := 172) (pc := 124) (zd_eq zk172 (by decide +kernel : decode cX7_swap 124 = .ok (.iload 6, 2)))) <|
  zcons (a := (126, zi_bin (· + ·) 127)) (zs_iadd (M := 172) (pc := 126) (zd_eq zk172 (by decide +kernel : decode cX7_swap 126 = .ok (.iadd, 1)))) <|
  zcons (a := (127, zi_al 0 128)) (zs_al_n (M := 172) (pc := 127) (zd_eq zk172 (by decide +kernel : decode cX7_swap 127 = .ok (.aload_n 0, 1)))) <| znil
theorem zS172_3 : ∀ q ∈ zm_c172_3, zm_Snd 172 q.1 q.2 :=
  zcons (a := (128, zi_gr 7 0 131)) (zs_gr (M := 172) (pc := 128) (n := 0) (ci := 7) (k := 0) (C := RX7) (T := TX7) (N := 26) (zd_eq zk172 (by decide +kernel : decode cX7_swap 128 = .ok (.getfield 7, 3))) rfl (by decide) (by decide) zin_7 (zl_f zo172 zw_796)) <|
  zcons (a := (131, zi_il 7 133)) (zs_il_w (M := 172) (pc := 131) (zd_eq zk172 (by decide +kernel : decode cX7_swap 131 = .ok (.iload 7, 2)))) <|
  zcons (a := (133, zi_il 5 135)) (zs_il_w (M := 172) (pc := 133) (zd_eq zk172 (by decide +kernel : decode cX7_swap 133 = .ok (.iload 5, 2)))) <|
  zcons (a := (135, zi_bin (· + ·) 136)) (zs_iadd (M := 172) (pc := 135) (zd_eq zk172 (by decide +kernel : decode cX7_swap 135 = .ok (.iadd, 1)))) <|
  zcons (a := (136, zi_ald 0 137)) (zs_iald (M := 172) (pc := 136) (zd_eq zk172 (by decide +kernel : decode cX7_swap 136 = .ok (.iaload, 1)))) <|
  zcons (a := (137, zi_ast 0 (fun x => x) 138)) (zs_iast (M := 172) (pc := 137) (zd_eq zk172 (by decide +kernel : decode cX7_swap 137 = .ok (.iastore, 1)))) <|
  zcons (a := (138, zi_inc 7 5 141)) (zs_inc (M := 172) (pc := 138) (zd_eq zk172 (by decide +kernel : decode cX7_swap 138 = .ok (.iinc 7 5, 3))) (by decide) (by decide +kernel) (by decide +kernel)) <|
  zcons (a := (141, zi_go 83)) (zs_goto (M := 172) (pc := 141) (zd_eq zk172 (by decide +kernel : decode cX7_swap 141 = .ok (.goto (-58), 3))) (by decide)) <|
  zcons (a := (144, zi_al 0 145)) (zs_al_n (M := 172) (pc := 144) (zd_eq zk172 (by decide +kernel : decode cX7_swap 144 = .ok (.aload_n 0, 1)))) <|
  zcons (a := (145, zi_k (.int 155) 148)) (zs_sipush (M := 172) (pc := 145) (zd_eq zk172 (by decide +kernel : decode cX7_swap 145 = .ok (.sipush 155, 3))) (by decide)) <|
  zcons (a := (148, zi_il 1 149)) (zs_il_n (M := 172) (pc := 148) (zd_eq zk172 (by decide +kernel : decode cX7_swap 148 = .ok (.iload_n 1, 1)))) <|
  zcons (a := (149, zi_cv 161 2 7 152 0)) (zs_cv (M := 172) (pc := 149) (M' := 161) (k := 2) (kd := 0) (ci := 7) (q := (RX7, TX7, 26)) (zd_eq zk172 (by decide +kernel : decode cX7_swap 149 = .ok (.invokevirtual 197, 3))) zWd161 (zl_m zo172 zy161 zw_1039) (zl_i zy161 zw_1041) (zl_e zy161 zw_41) (by decide) rfl (by rw [zo161])) <|
  zcons (a := (152, zi_al 0 153)) (zs_al_n (M := 172) (pc := 152) (zd_eq zk172 (by decide +kernel : decode cX7_swap 152 = .ok (.aload_n 0, 1)))) <|
  zcons (a := (153, zi_gi 7 16 156)) (zs_gi (M := 172) (pc := 153) (n := 0) (ci := 7) (k := 16) (C := RX7) (T := TX7) (N := 26) (zd_eq zk172 (by decide +kernel : decode cX7_swap 153 = .ok (.getfield 192, 3))) rfl (by decide) (by decide) zin_7 (zl_f zo172 zw_812)) <|
  zcons (a := (156, zi_il 3 157)) (zs_il_n (M := 172) (pc := 156) (zd_eq zk172 (by decide +kernel : decode cX7_swap 156 = .ok (.iload_n 3, 1)))) <|
  zcons (a := (157, zi_b2 (fun x y => y ≤ x) 171 160)) (zs_icmpge (M := 172) (pc := 157) (zd_eq zk172 (by decide +kernel : decode cX7_swap 157 = .ok (.if_icmp .ge 14, 3))) (by decide)) <|
  zcons (a := (160, zi_k (.int 10) 162)) (zs_bipush (M := 172) (pc := 160) (zd_eq zk172 (by decide +kernel : decode cX7_swap 160 = .ok (.bipush 10, 2))) (by decide)) <|
  zcons (a := (162, zi_il 5 164)) (zs_il_w (M := 172) (pc := 162) (zd_eq zk172 (by decide +kernel : decode cX7_swap 162 = .ok (.iload 5, 2)))) <|
  zcons (a := (164, zi_bin (· * ·) 165)) (zs_imul (M := 172) (pc := 164) (zd_eq zk172 (by decide +kernel : decode cX7_swap 164 = .ok (.imul, 1)))) <|
  zcons (a := (165, zi_il 6 167)) (zs_il_w (M := 172) (pc := 165) (zd_eq zk172 (by decide +kernel : decode cX7_swap 165 = .ok (.iload 6, 2)))) <|
  zcons (a := (167, zi_bin (· + ·) 168)) (zs_iadd (M := 172) (pc := 167) (zd_eq zk172 (by decide +kernel : decode cX7_swap 167 = .ok (.iadd, 1)))) <|
  zcons (a := (168, zi_go 173)) (zs_goto (M := 172) (pc := 168) (zd_eq zk172 (by decide +kernel : decode cX7_swap 168 = .ok (.goto 5, 3))) (by decide)) <|
  zcons (a := (171, zi_il 4 173)) (zs_il_w (M := 172) (pc := 171) (zd_eq zk172 (by decide +kernel : decode cX7_swap 171 = .ok (.iload 4, 2)))) <|
  zcons (a := (173, zi_is 4 175)) (zs_is_w (M := 172) (pc := 173) (zd_eq zk172 (by decide +kernel : decode cX7_swap 173 = .ok (.istore 4, 2))) (by decide +kernel) (by decide +kernel)) <| znil
theorem zS172_4 : ∀ q ∈ zm_c172_4, zm_Snd 172 q.1 q.2 :=
  zcons (a := (175, zi_al 0 176)) (zs_al_n (M := 172) (pc := 175) (zd_eq zk172 (by decide +kernel : decode cX7_swap 175 = .ok (.aload_n 0, 1)))) <|
  zcons (a := (176, zi_gi 7 16 179)) (zs_gi (M := 172) (pc := 176) (n := 0) (ci := 7) (k := 16) (C := RX7) (T := TX7) (N := 26) (zd_eq zk172 (by decide +kernel : decode cX7_swap 176 = .ok (.getfield 192, 3))) rfl (by decide) (by decide) zin_7 (zl_f zo172 zw_812)) <|
  zcons (a := (179, zi_il 3 180)) (zs_il_n (M := 172) (pc := 179) (zd_eq zk172 (by decide +kernel : decode cX7_swap 179 = .ok (.iload_n 3, 1)))) <|
  zcons (a := (180, zi_b2 (fun x y => y ≤ x) 190 183)) (zs_icmpge (M := 172) (pc := 180) (zd_eq zk172 (by decide +kernel : decode cX7_swap 180 = .ok (.if_icmp .ge 10, 3))) (by decide)) <|
  zcons (a := (183, zi_al 0 184)) (zs_al_n (M := 172) (pc := 183) (zd_eq zk172 (by decide +kernel : decode cX7_swap 183 = .ok (.aload_n 0, 1)))) <|
  zcons (a := (184, zi_gi 7 16 187)) (zs_gi (M := 172) (pc := 184) (n := 0) (ci := 7) (k := 16) (C := RX7) (T := TX7) (N := 26) (zd_eq zk172 (by decide +kernel : decode cX7_swap 184 = .ok (.getfield 192, 3))) rfl (by decide) (by decide) zin_7 (zl_f zo172 zw_812)) <|
  zcons (a := (187, zi_go 191)) (zs_goto (M := 172) (pc := 187) (zd_eq zk172 (by decide +kernel : decode cX7_swap 187 = .ok (.goto 4, 3))) (by decide)) <|
  zcons (a := (190, zi_il 3 191)) (zs_il_n (M := 172) (pc := 190) (zd_eq zk172 (by decide +kernel : decode cX7_swap 190 = .ok (.iload_n 3, 1)))) <|
  zcons (a := (191, zi_is 3 192)) (zs_is_n (M := 172) (pc := 191) (zd_eq zk172 (by decide +kernel : decode cX7_swap 191 = .ok (.istore_n 3, 1))) (by decide +kernel) (by decide +kernel)) <|
  zcons (a := (192, zi_inc 6 1 195)) (zs_inc (M := 172) (pc := 192) (zd_eq zk172 (by decide +kernel : decode cX7_swap 192 = .ok (.iinc 6 1, 3))) (by decide) (by decide +kernel) (by decide +kernel)) <|
  zcons (a := (195, zi_go 60)) (zs_goto (M := 172) (pc := 195) (zd_eq zk172 (by decide +kernel : decode cX7_swap 195 = .ok (.goto (-135), 3))) (by decide)) <|
  zcons (a := (198, zi_inc 5 1 201)) (zs_inc (M := 172) (pc := 198) (zd_eq zk172 (by decide +kernel : decode cX7_swap 198 = .ok (.iinc 5 1, 3))) (by decide) (by decide +kernel) (by decide +kernel)) <|
  zcons (a := (201, zi_go 42)) (zs_goto (M := 172) (pc := 201) (zd_eq zk172 (by decide +kernel : decode cX7_swap 201 = .ok (.goto (-159), 3))) (by decide)) <|
  zcons (a := (204, zi_il 4 206)) (zs_il_w (M := 172) (pc := 204) (zd_eq zk172 (by decide +kernel : decode cX7_swap 204 = .ok (.iload 4, 2)))) <|
  zcons (a := (206, zi_k (.int (-4)) 208)) (zs_bipush (M := 172) (pc := 206) (zd_eq zk172 (by decide +kernel : decode cX7_swap 206 = .ok (.bipush (-4), 2))) (by decide)) <|
  zcons (a := (208, zi_b2 (fun x y => x = y) 215 211)) (zs_icmpeq (M := 172) (pc := 208) (zd_eq zk172 (by decide +kernel : decode cX7_swap 208 = .ok (.if_icmp .eq 7, 3))) (by decide)) <|
  zcons (a := (211, zi_il 2 212)) (zs_il_n (M := 172) (pc := 211) (zd_eq zk172 (by decide +kernel : decode cX7_swap 211 = .ok (.iload_n 2, 1)))) <|
  zcons (a := (212, zi_b1 (fun x => ¬ x = 0) 220 215)) (zs_ifne (M := 172) (pc := 212) (zd_eq zk172 (by decide +kernel : decode cX7_swap 212 = .ok (.ifCond .ne 8, 3))) (by decide)) <|
  zcons (a := (215, zi_il 4 217)) (zs_il_w (M := 172) (pc := 215) (zd_eq zk172 (by decide +kernel : decode cX7_swap 215 = .ok (.iload 4, 2)))) <|
  zcons (a := (217, zi_go 221)) (zs_goto (M := 172) (pc := 217) (zd_eq zk172 (by decide +kernel : decode cX7_swap 217 = .ok (.goto 4, 3))) (by decide)) <|
  zcons (a := (220, zi_il 3 221)) (zs_il_n (M := 172) (pc := 220) (zd_eq zk172 (by decide +kernel : decode cX7_swap 220 = .ok (.iload_n 3, 1)))) <|
  zcons (a := (221, zi_ri)) (zs_ri (M := 172) (pc := 221) (zd_eq zk172 (by decide +kernel : decode cX7_swap 221 = .ok (.ireturn, 1))) rfl) <| znil
theorem zS172 : ∀ pc, zm_Snd 172 pc (zm_lk2 zm_c172 pc) := zlk2 (zcons2 zS172_0 (zcons2 zS172_1 (zcons2 zS172_2 (zcons2 zS172_3 (zcons2 zS172_4 (znil2))))))
theorem zS173_0 : ∀ q ∈ zm_c173_0, zm_Snd 173 q.1 q.2 :=
  zcons (a := (0, zi_il 1 1)) (zs_il_n (M := 173) (pc := 0) (zd_eq zk173 (by decide +kernel : decode cX7_lee 0 = .ok (.iload_n 1, 1)))) <|
  zcons (a := (1, zi_i2l 2)) (zs_i2l (M := 173) (pc := 1) (zd_eq zk173 (by decide +kernel : decode cX7_lee 1 = .ok (.i2l, 1)))) <|
  zcons (a := (2, zi_k (.long 0) 3)) (zs_lconst (M := 173) (pc := 2) (zd_eq zk173 (by decide +kernel : decode cX7_lee 2 = .ok (.lconst 0, 1))) (by decide)) <|
  zcons (a := (3, zi_k (.long 60) 6)) (zs_ldc2 (M := 173) (pc := 3) (zd_eq zk173 (by decide +kernel : decode cX7_lee 3 = .ok (.ldc2_w 195, 3))) (zl_k2 zo173 zw_1038)) <|
  zcons (a := (6, zi_cs 123 3 9 1)) (zs_cs (M := 173) (pc := 6) (M' := 123) (k := 3) (kd := 1) (zd_eq zk173 (by decide +kernel : decode cX7_lee 6 = .ok (.invokestatic 49, 3))) zWd123 (zl_m zo173 zy123 zw_880) (zl_s zy123 zw_881)) <|
  zcons (a := (9, zi_b1 (fun x => x = 0) 22 12)) (zs_ifeq (M := 173) (pc := 9) (zd_eq zk173 (by decide +kernel : decode cX7_lee 9 = .ok (.ifCond .eq 13, 3))) (by decide)) <|
  zcons (a := (12, zi_il 2 13)) (zs_il_n (M := 173) (pc := 12) (zd_eq zk173 (by decide +kernel : decode cX7_lee 12 = .ok (.iload_n 2, 1)))) <|
  zcons (a := (13, zi_i2l 14)) (zs_i2l (M := 173) (pc := 13) (zd_eq zk173 (by decide +kernel : decode cX7_lee 13 = .ok (.i2l, 1)))) <|
  zcons (a := (14, zi_k (.long 0) 15)) (zs_lconst (M := 173) (pc := 14) (zd_eq zk173 (by decide +kernel : decode cX7_lee 14 = .ok (.lconst 0, 1))) (by decide)) <|
  zcons (a := (15, zi_k (.long 1) 16)) (zs_lconst (M := 173) (pc := 15) (zd_eq zk173 (by decide +kernel : decode cX7_lee 15 = .ok (.lconst 1, 1))) (by decide)) <|
  zcons (a := (16, zi_cs 123 3 19 1)) (zs_cs (M := 173) (pc := 16) (M' := 123) (k := 3) (kd := 1) (zd_eq zk173 (by decide +kernel : decode cX7_lee 16 = .ok (.invokestatic 49, 3))) zWd123 (zl_m zo173 zy123 zw_880) (zl_s zy123 zw_881)) <|
  zcons (a := (19, zi_b1 (fun x => ¬ x = 0) 24 22)) (zs_ifne (M := 173) (pc := 19) (zd_eq zk173 (by decide +kernel : decode cX7_lee 19 = .ok (.ifCond .ne 5, 3))) (by decide)) <|
  zcons (a := (22, zi_k (.int (-1)) 23)) (zs_iconst (M := 173) (pc := 22) (zd_eq zk173 (by decide +kernel : decode cX7_lee 22 = .ok (.iconst (-1), 1))) (by decide)) <|
  zcons (a := (23, zi_ri)) (zs_ri (M := 173) (pc := 23) (zd_eq zk173 (by decide +kernel : decode cX7_lee 23 = .ok (.ireturn, 1))) rfl) <|
  zcons (a := (24, zi_al 0 25)) (zs_al_n (M := 173) (pc := 24) (zd_eq zk173 (by decide +kernel : decode cX7_lee 24 = .ok (.aload_n 0, 1)))) <|
  zcons (a := (25, zi_k (.int 0) 26)) (zs_iconst (M := 173) (pc := 25) (zd_eq zk173 (by decide +kernel : decode cX7_lee 25 = .ok (.iconst 0, 1))) (by decide)) <|
  zcons (a := (26, zi_il 1 27)) (zs_il_n (M := 173) (pc := 26) (zd_eq zk173 (by decide +kernel : decode cX7_lee 26 = .ok (.iload_n 1, 1)))) <|
  zcons (a := (27, zi_cv 161 2 7 30 0)) (zs_cv (M := 173) (pc := 27) (M' := 161) (k := 2) (kd := 0) (ci := 7) (q := (RX7, TX7, 26)) (zd_eq zk173 (by decide +kernel : decode cX7_lee 27 = .ok (.invokevirtual 197, 3))) zWd161 (zl_m zo173 zy161 zw_1039) (zl_i zy161 zw_1041) (zl_e zy161 zw_41) (by decide) rfl (by rw [zo161])) <|
  zcons (a := (30, zi_al 0 31)) (zs_al_n (M := 173) (pc := 30) (zd_eq zk173 (by decide +kernel : decode cX7_lee 30 = .ok (.aload_n 0, 1)))) <|
  zcons (a := (31, zi_k (.int 124) 33)) (zs_bipush (M := 173) (pc := 31) (zd_eq zk173 (by decide +kernel : decode cX7_lee 31 = .ok (.bipush 124, 2))) (by decide)) <|
  zcons (a := (33, zi_cv 142 1 7 36 1)) (zs_cv (M := 173) (pc := 33) (M' := 142) (k := 1) (kd := 1) (ci := 7) (q := (RX7, TX7, 26)) (zd_eq zk173 (by decide +kernel : decode cX7_lee 33 = .ok (.invokevirtual 144, 3))) zWd142 (zl_m zo173 zy142 zw_941) (zl_i zy142 zw_943) (zl_e zy142 zw_29) (by decide) rfl (by rw [zo142])) <|
  zcons (a := (36, zi_cs 146 1 39 1)) (zs_cs (M := 173) (pc := 36) (M' := 146) (k := 1) (kd := 1) (zd_eq zk173 (by decide +kernel : decode cX7_lee 36 = .ok (.invokestatic 179, 3))) zWd146 (zl_m zo173 zy146 zw_1031) (zl_s zy146 zw_1032)) <|
  zcons (a := (39, zi_is 3 40)) (zs_is_n (M := 173) (pc := 39) (zd_eq zk173 (by decide +kernel : decode cX7_lee 39 = .ok (.istore_n 3, 1))) (by decide +kernel) (by decide +kernel)) <|
  zcons (a := (40, zi_k (.int (-4)) 42)) (zs_bipush (M := 173) (pc := 40) (zd_eq zk173 (by decide +kernel : decode cX7_lee 40 = .ok (.bipush (-4), 2))) (by decide)) <| znil
theorem zS173_1 : ∀ q ∈ zm_c173_1, zm_Snd 173 q.1 q.2 :=
  zcons (a := (42, zi_is 4 44)) (zs_is_w (M := 173) (pc := 42) (zd_eq zk173 (by decide +kernel : decode cX7_lee 42 = .ok (.istore 4, 2))) (by decide +kernel) (by decide +kernel)) <|
  zcons (a := (44, zi_k (.int 0) 45)) (zs_iconst (M := 173) (pc := 44) (zd_eq zk173 (by decide +kernel : decode cX7_lee 44 = .ok (.iconst 0, 1))) (by decide)) <|
  zcons (a := (45, zi_is 5 47)) (zs_is_w (M := 173) (pc := 45) (zd_eq zk173 (by decide +kernel : decode cX7_lee 45 = .ok (.istore 5, 2))) (by decide +kernel) (by decide +kernel)) <|
  zcons (a := (47, zi_il 5 49)) (zs_il_w (M := 173) (pc := 47) (zd_eq zk173 (by decide +kernel : decode cX7_lee 47 = .ok (.iload 5, 2)))) <|
  zcons (a := (49, zi_k (.int 7) 51)) (zs_bipush (M := 173) (pc := 49) (zd_eq zk173 (by decide +kernel : decode cX7_lee 49 = .ok (.bipush 7, 2))) (by decide)) <|
  zcons (a := (51, zi_b2 (fun x y => y ≤ x) 127 54)) (zs_icmpge (M := 173) (pc := 51) (zd_eq zk173 (by decide +kernel : decode cX7_lee 51 = .ok (.if_icmp .ge 76, 3))) (by decide)) <|
  zcons (a := (54, zi_al 0 55)) (zs_al_n (M := 173) (pc := 54) (zd_eq zk173 (by decide +kernel : decode cX7_lee 54 = .ok (.aload_n 0, 1)))) <|
  zcons (a := (55, zi_k (.int 0) 56)) (zs_iconst (M := 173) (pc := 55) (zd_eq zk173 (by decide +kernel : decode cX7_lee 55 = .ok (.iconst 0, 1))) (by decide)) <|
  zcons (a := (56, zi_k (.int 155) 59)) (zs_sipush (M := 173) (pc := 56) (zd_eq zk173 (by decide +kernel : decode cX7_lee 56 = .ok (.sipush 155, 3))) (by decide)) <|
  zcons (a := (59, zi_cv 160 2 7 62 0)) (zs_cv (M := 173) (pc := 59) (M' := 160) (k := 2) (kd := 0) (ci := 7) (q := (RX7, TX7, 26)) (zd_eq zk173 (by decide +kernel : decode cX7_lee 59 = .ok (.invokevirtual 182, 3))) zWd160 (zl_m zo173 zy160 zw_1043) (zl_i zy160 zw_1045) (zl_e zy160 zw_42) (by decide) rfl (by rw [zo160])) <|
  zcons (a := (62, zi_al 0 63)) (zs_al_n (M := 173) (pc := 62) (zd_eq zk173 (by decide +kernel : decode cX7_lee 62 = .ok (.aload_n 0, 1)))) <|
  zcons (a := (63, zi_gr 7 0 66)) (zs_gr (M := 173) (pc := 63) (n := 0) (ci := 7) (k := 0) (C := RX7) (T := TX7) (N := 26) (zd_eq zk173 (by decide +kernel : decode cX7_lee 63 = .ok (.getfield 7, 3))) rfl (by decide) (by decide) zin_7 (zl_f zo173 zw_796)) <|
  zcons (a := (66, zi_k (.int 178) 69)) (zs_sipush (M := 173) (pc := 66) (zd_eq zk173 (by decide +kernel : decode cX7_lee 66 = .ok (.sipush 178, 3))) (by decide)) <|
  zcons (a := (69, zi_il 5 71)) (zs_il_w (M := 173) (pc := 69) (zd_eq zk173 (by decide +kernel : decode cX7_lee 69 = .ok (.iload 5, 2)))) <|
  zcons (a := (71, zi_bin (· + ·) 72)) (zs_iadd (M := 173) (pc := 71) (zd_eq zk173 (by decide +kernel : decode cX7_lee 71 = .ok (.iadd, 1)))) <|
  zcons (a := (72, zi_k (.int 0) 73)) (zs_iconst (M := 173) (pc := 72) (zd_eq zk173 (by decide +kernel : decode cX7_lee 72 = .ok (.iconst 0, 1))) (by decide)) <|
  zcons (a := (73, zi_ast 0 (fun x => x) 74)) (zs_iast (M := 173) (pc := 73) (zd_eq zk173 (by decide +kernel : decode cX7_lee 73 = .ok (.iastore, 1)))) <|
  zcons (a := (74, zi_al 0 75)) (zs_al_n (M := 173) (pc := 74) (zd_eq zk173 (by decide +kernel : decode cX7_lee 74 = .ok (.aload_n 0, 1)))) <|
  zcons (a := (75, zi_k (.int 155) 78)) (zs_sipush (M := 173) (pc := 75) (zd_eq zk173 (by decide +kernel : decode cX7_lee 75 = .ok (.sipush 155, 3))) (by decide)) <|
  zcons (a := (78, zi_il 1 79)) (zs_il_n (M := 173) (pc := 78) (zd_eq zk173 (by decide +kernel : decode cX7_lee 78 = .ok (.iload_n 1, 1)))) <|
  zcons (a := (79, zi_cv 161 2 7 82 0)) (zs_cv (M := 173) (pc := 79) (M' := 161) (k := 2) (kd := 0) (ci := 7) (q := (RX7, TX7, 26)) (zd_eq zk173 (by decide +kernel : decode cX7_lee 79 = .ok (.invokevirtual 197, 3))) zWd161 (zl_m zo173 zy161 zw_1039) (zl_i zy161 zw_1041) (zl_e zy161 zw_41) (by decide) rfl (by rw [zo161])) <|
  zcons (a := (82, zi_al 0 83)) (zs_al_n (M := 173) (pc := 82) (zd_eq zk173 (by decide +kernel : decode cX7_lee 82 = .ok (.aload_n 0, 1)))) <|
  zcons (a := (83, zi_k (.int 124) 85)) (zs_bipush (M := 173) (pc := 83) (zd_eq zk173 (by decide +kernel : decode cX7_lee 83 = .ok (.bipush 124, 2))) (by decide)) <|
  zcons (a := (85, zi_cv 142 1 7 88 1)) (zs_cv (M := 173) (pc := 85) (M' := 142) (k := 1) (kd := 1) (ci := 7) (q := (RX7, TX7, 26)) (zd_eq zk173 (by decide +kernel : decode cX7_lee 85 = .ok (.invokevirtual 144, 3))) zWd142 (zl_m zo173 zy142 zw_941) (zl_i zy142 zw_943) (zl_e zy142 zw_29) (by decide) rfl (by rw [zo142])) <| znil
theorem zS173_2 : ∀ q ∈ zm_c173_2, zm_Snd 173 q.1 q.2 :=
  zcons (a := (88, zi_cs 146 1 91 1)) (zs_cs (M := 173) (pc := 88) (M' := 146) (k := 1) (kd := 1) (zd_eq zk173 (by decide +kernel : decode cX7_lee 88 = .ok (.invokestatic 179, 3))) zWd146 (zl_m zo173 zy146 zw_1031) (zl_s zy146 zw_1032)) <|
  zcons (a := (91, zi_is 6 93)) (zs_is_w (M := 173) (pc := 91) (zd_eq zk173 (by decide +kernel : decode cX7_lee 91 = .ok (.istore 6, 2))) (by decide +kernel) (by decide +kernel)) <|
  zcons (a := (93, zi_il 6 95)) (zs_il_w (M := 173) (pc := 93) (zd_eq zk173 (by decide +kernel : decode cX7_lee 93 = .ok (.iload 6, 2)))) <|
  zcons (a := (95, zi_il 3 96)) (zs_il_n (M := 173) (pc := 95) (zd_eq zk173 (by decide +kernel : decode cX7_lee 95 = .ok (.iload_n 3, 1)))) <|
  zcons (a := (96, zi_b2 (fun x y => x ≤ y) 104 99)) (zs_icmple (M := 173) (pc := 96) (zd_eq zk173 (by decide +kernel : decode cX7_lee 96 = .ok (.if_icmp .le 8, 3))) (by decide)) <|
  zcons (a := (99, zi_il 5 101)) (zs_il_w (M := 173) (pc := 99) (zd_eq zk173 (by decide +kernel : decode cX7_lee 99 = .ok (.iload 5, 2)))) <|
  zcons (a := (101, zi_go 106)) (zs_goto (M := 173) (pc := 101) (zd_eq zk173 (by decide +kernel : decode cX7_lee 101 = .ok (.goto 5, 3))) (by decide)) <|
  zcons (a := (104, zi_il 4 106)) (zs_il_w (M := 173) (pc := 104) (zd_eq zk173 (by decide +kernel : decode cX7_lee 104 = .ok (.iload 4, 2)))) <|
  zcons (a := (106, zi_is 4 108)) (zs_is_w (M := 173) (pc := 106) (zd_eq zk173 (by decide +kernel : decode cX7_lee 106 = .ok (.istore 4, 2))) (by decide +kernel) (by decide +kernel)) <|
  zcons (a := (108, zi_il 6 110)) (zs_il_w (M := 173) (pc := 108) (zd_eq zk173 (by decide +kernel : decode cX7_lee 108 = .ok (.iload 6, 2)))) <|
  zcons (a := (110, zi_il 3 111)) (zs_il_n (M := 173) (pc := 110) (zd_eq zk173 (by decide +kernel : decode cX7_lee 110 = .ok (.iload_n 3, 1)))) <|
  zcons (a := (111, zi_b2 (fun x y => x ≤ y) 119 114)) (zs_icmple (M := 173) (pc := 111) (zd_eq zk173 (by decide +kernel : decode cX7_lee 111 = .ok (.if_icmp .le 8, 3))) (by decide)) <|
  zcons (a := (114, zi_il 6 116)) (zs_il_w (M := 173) (pc := 114) (zd_eq zk173 (by decide +kernel : decode cX7_lee 114 = .ok (.iload 6, 2)))) <|
  zcons (a := (116, zi_go 120)) (zs_goto (M := 173) (pc := 116) (zd_eq zk173 (by decide +kernel : decode cX7_lee 116 = .ok (.goto 4, 3))) (by decide)) <|
  zcons (a := (119, zi_il 3 120)) (zs_il_n (M := 173) (pc := 119) (zd_eq zk173 (by decide +kernel : decode cX7_lee 119 = .ok (.iload_n 3, 1)))) <|
  zcons (a := (120, zi_is 3 121)) (zs_is_n (M := 173) (pc := 120) (zd_eq zk173 (by decide +kernel : decode cX7_lee 120 = .ok (.istore_n 3, 1))) (by decide +kernel) (by decide +kernel)) <|
  zcons (a := (121, zi_inc 5 1 124)) (zs_inc (M := 173) (pc := 121) (zd_eq zk173 (by decide +kernel : decode cX7_lee 121 = .ok (.iinc 5 1, 3))) (by decide) (by decide +kernel) (by decide +kernel)) <|
  zcons (a := (124, zi_go 47)) (zs_goto (M := 173) (pc := 124) (zd_eq zk173 (by decide +kernel : decode cX7_lee 124 = .ok (.goto (-77), 3))) (by decide)) <|
  zcons (a := (127, zi_il 4 129)) (zs_il_w (M := 173) (pc := 127) (zd_eq zk173 (by decide +kernel : decode cX7_lee 127 = .ok (.iload 4, 2)))) <|
  zcons (a := (129, zi_k (.int (-4)) 131)) (zs_bipush (M := 173) (pc := 129) (zd_eq zk173 (by decide +kernel : decode cX7_lee 129 = .ok (.bipush (-4), 2))) (by decide)) <|
  zcons (a := (131, zi_b2 (fun x y => x = y) 138 134)) (zs_icmpeq (M := 173) (pc := 131) (zd_eq zk173 (by decide +kernel : decode cX7_lee 131 = .ok (.if_icmp .eq 7, 3))) (by decide)) <|
  zcons (a := (134, zi_il 2 135)) (zs_il_n (M := 173) (pc := 134) (zd_eq zk173 (by decide +kernel : decode cX7_lee 134 = .ok (.iload_n 2, 1)))) <|
  zcons (a := (135, zi_b1 (fun x => ¬ x = 0) 143 138)) (zs_ifne (M := 173) (pc := 135) (zd_eq zk173 (by decide +kernel : decode cX7_lee 135 = .ok (.ifCond .ne 8, 3))) (by decide)) <|
  zcons (a := (138, zi_il 4 140)) (zs_il_w (M := 173) (pc := 138) (zd_eq zk173 (by decide +kernel : decode cX7_lee 138 = .ok (.iload 4, 2)))) <| znil
theorem zS173_3 : ∀ q ∈ zm_c173_3, zm_Snd 173 q.1 q.2 :=
  zcons (a := (140, zi_go 144)) (zs_goto (M := 173) (pc := 140) (zd_eq zk173 (by decide +kernel : decode cX7_lee 140 = .ok (.goto 4, 3))) (by decide)) <|
  zcons (a := (143, zi_il 3 144)) (zs_il_n (M := 173) (pc := 143) (zd_eq zk173 (by decide +kernel : decode cX7_lee 143 = .ok (.iload_n 3, 1)))) <|
  zcons (a := (144, zi_ri)) (zs_ri (M := 173) (pc := 144) (zd_eq zk173 (by decide +kernel : decode cX7_lee 144 = .ok (.ireturn, 1))) rfl) <| znil
theorem zS173 : ∀ pc, zm_Snd 173 pc (zm_lk2 zm_c173 pc) := zlk2 (zcons2 zS173_0 (zcons2 zS173_1 (zcons2 zS173_2 (zcons2 zS173_3 (znil2)))))
theorem zS174_0 : ∀ q ∈ zm_c174_0, zm_Snd 174 q.1 q.2 :=
  zcons (a := (0, zi_al 0 1)) (zs_al_n (M := 174) (pc := 0) (zd_eq zk174 (by decide +kernel : decode cX7_lastsOn 0 = .ok (.aload_n 0, 1)))) <|
  zcons (a := (1, zi_il 1 2)) (zs_il_n (M := 174) (pc := 1) (zd_eq zk174 (by decide +kernel : decode cX7_lastsOn 1 = .ok (.iload_n 1, 1)))) <|
  zcons (a := (2, zi_il 2 3)) (zs_il_n (M := 174) (pc := 2) (zd_eq zk174 (by decide +kernel : decode cX7_lastsOn 2 = .ok (.iload_n 2, 1)))) <|
  zcons (a := (3, zi_cv 164 2 7 6 1)) (zs_cv (M := 174) (pc := 3) (M' := 164) (k := 2) (kd := 1) (ci := 7) (q := (RX7, TX7, 26)) (zd_eq zk174 (by decide +kernel : decode cX7_lastsOn 3 = .ok (.invokevirtual 200, 3))) zWd164 (zl_m zo174 zy164 zw_1055) (zl_i zy164 zw_1057) (zl_e zy164 zw_43) (by decide) rfl (by rw [zo164])) <|
  zcons (a := (6, zi_is 3 7)) (zs_is_n (M := 174) (pc := 6) (zd_eq zk174 (by decide +kernel : decode cX7_lastsOn 6 = .ok (.istore_n 3, 1))) (by decide +kernel) (by decide +kernel)) <|
  zcons (a := (7, zi_il 3 8)) (zs_il_n (M := 174) (pc := 7) (zd_eq zk174 (by decide +kernel : decode cX7_lastsOn 7 = .ok (.iload_n 3, 1)))) <|
  zcons (a := (8, zi_k (.int (-4)) 10)) (zs_bipush (M := 174) (pc := 8) (zd_eq zk174 (by decide +kernel : decode cX7_lastsOn 8 = .ok (.bipush (-4), 2))) (by decide)) <|
  zcons (a := (10, zi_b2 (fun x y => ¬ x = y) 18 13)) (zs_icmpne (M := 174) (pc := 10) (zd_eq zk174 (by decide +kernel : decode cX7_lastsOn 10 = .ok (.if_icmp .ne 8, 3))) (by decide)) <|
  zcons (a := (13, zi_k (.int 61) 15)) (zs_bipush (M := 174) (pc := 13) (zd_eq zk174 (by decide +kernel : decode cX7_lastsOn 13 = .ok (.bipush 61, 2))) (by decide)) <|
  zcons (a := (15, zi_go 19)) (zs_goto (M := 174) (pc := 15) (zd_eq zk174 (by decide +kernel : decode cX7_lastsOn 15 = .ok (.goto 4, 3))) (by decide)) <|
  zcons (a := (18, zi_il 3 19)) (zs_il_n (M := 174) (pc := 18) (zd_eq zk174 (by decide +kernel : decode cX7_lastsOn 18 = .ok (.iload_n 3, 1)))) <|
  zcons (a := (19, zi_ri)) (zs_ri (M := 174) (pc := 19) (zd_eq zk174 (by decide +kernel : decode cX7_lastsOn 19 = .ok (.ireturn, 1))) rfl) <| znil
theorem zS174 : ∀ pc, zm_Snd 174 pc (zm_lk2 zm_c174 pc) := zlk2 (zcons2 zS174_0 (znil2))
theorem zS175_0 : ∀ q ∈ zm_c175_0, zm_Snd 175 q.1 q.2 :=
  zcons (a := (0, zi_al 0 1)) (zs_al_n (M := 175) (pc := 0) (zd_eq zk175 (by decide +kernel : decode cX7_kind 0 = .ok (.aload_n 0, 1)))) <|
  zcons (a := (1, zi_il 1 2)) (zs_il_n (M := 175) (pc := 1) (zd_eq zk175 (by decide +kernel : decode cX7_kind 1 = .ok (.iload_n 1, 1)))) <|
  zcons (a := (2, zi_cv 135 1 7 5 1)) (zs_cv (M := 175) (pc := 2) (M' := 135) (k := 1) (kd := 1) (ci := 7) (q := (RX7, TX7, 26)) (zd_eq zk175 (by decide +kernel : decode cX7_kind 2 = .ok (.invokevirtual 150, 3))) zWd135 (zl_m zo175 zy135 zw_953) (zl_i zy135 zw_955) (zl_e zy135 zw_31) (by decide) rfl (by rw [zo135])) <|
  zcons (a := (5, zi_b1 (fun x => x = 0) 18 8)) (zs_ifeq (M := 175) (pc := 5) (zd_eq zk175 (by decide +kernel : decode cX7_kind 5 = .ok (.ifCond .eq 13, 3))) (by decide)) <|
  zcons (a := (8, zi_il 2 9)) (zs_il_n (M := 175) (pc := 8) (zd_eq zk175 (by decide +kernel : decode cX7_kind 8 = .ok (.iload_n 2, 1)))) <|
  zcons (a := (9, zi_i2l 10)) (zs_i2l (M := 175) (pc := 9) (zd_eq zk175 (by decide +kernel : decode cX7_kind 9 = .ok (.i2l, 1)))) <|
  zcons (a := (10, zi_k (.long 0) 11)) (zs_lconst (M := 175) (pc := 10) (zd_eq zk175 (by decide +kernel : decode cX7_kind 10 = .ok (.lconst 0, 1))) (by decide)) <|
  zcons (a := (11, zi_k (.long 1) 12)) (zs_lconst (M := 175) (pc := 11) (zd_eq zk175 (by decide +kernel : decode cX7_kind 11 = .ok (.lconst 1, 1))) (by decide)) <|
  zcons (a := (12, zi_cs 123 3 15 1)) (zs_cs (M := 175) (pc := 12) (M' := 123) (k := 3) (kd := 1) (zd_eq zk175 (by decide +kernel : decode cX7_kind 12 = .ok (.invokestatic 49, 3))) zWd123 (zl_m zo175 zy123 zw_880) (zl_s zy123 zw_881)) <|
  zcons (a := (15, zi_b1 (fun x => ¬ x = 0) 20 18)) (zs_ifne (M := 175) (pc := 15) (zd_eq zk175 (by decide +kernel : decode cX7_kind 15 = .ok (.ifCond .ne 5, 3))) (by decide)) <|
  zcons (a := (18, zi_k (.int (-1)) 19)) (zs_iconst (M := 175) (pc := 18) (zd_eq zk175 (by decide +kernel : decode cX7_kind 18 = .ok (.iconst (-1), 1))) (by decide)) <|
  zcons (a := (19, zi_ri)) (zs_ri (M := 175) (pc := 19) (zd_eq zk175 (by decide +kernel : decode cX7_kind 19 = .ok (.ireturn, 1))) rfl) <|
  zcons (a := (20, zi_k (.int (-1)) 21)) (zs_iconst (M := 175) (pc := 20) (zd_eq zk175 (by decide +kernel : decode cX7_kind 20 = .ok (.iconst (-1), 1))) (by decide)) <|
  zcons (a := (21, zi_is 3 22)) (zs_is_n (M := 175) (pc := 21) (zd_eq zk175 (by decide +kernel : decode cX7_kind 21 = .ok (.istore_n 3, 1))) (by decide +kernel) (by decide +kernel)) <|
  zcons (a := (22, zi_k (.int 0) 23)) (zs_iconst (M := 175) (pc := 22) (zd_eq zk175 (by decide +kernel : decode cX7_kind 22 = .ok (.iconst 0, 1))) (by decide)) <|
  zcons (a := (23, zi_is 4 25)) (zs_is_w (M := 175) (pc := 23) (zd_eq zk175 (by decide +kernel : decode cX7_kind 23 = .ok (.istore 4, 2))) (by decide +kernel) (by decide +kernel)) <|
  zcons (a := (25, zi_k (.int 0) 26)) (zs_iconst (M := 175) (pc := 25) (zd_eq zk175 (by decide +kernel : decode cX7_kind 25 = .ok (.iconst 0, 1))) (by decide)) <|
  zcons (a := (26, zi_is 5 28)) (zs_is_w (M := 175) (pc := 26) (zd_eq zk175 (by decide +kernel : decode cX7_kind 26 = .ok (.istore 5, 2))) (by decide +kernel) (by decide +kernel)) <|
  zcons (a := (28, zi_il 5 30)) (zs_il_w (M := 175) (pc := 28) (zd_eq zk175 (by decide +kernel : decode cX7_kind 28 = .ok (.iload 5, 2)))) <|
  zcons (a := (30, zi_k (.int 4) 31)) (zs_iconst (M := 175) (pc := 30) (zd_eq zk175 (by decide +kernel : decode cX7_kind 30 = .ok (.iconst 4, 1))) (by decide)) <|
  zcons (a := (31, zi_b2 (fun x y => y ≤ x) 98 34)) (zs_icmpge (M := 175) (pc := 31) (zd_eq zk175 (by decide +kernel : decode cX7_kind 31 = .ok (.if_icmp .ge 67, 3))) (by decide)) <|
  zcons (a := (34, zi_al 0 35)) (zs_al_n (M := 175) (pc := 34) (zd_eq zk175 (by decide +kernel : decode cX7_kind 34 = .ok (.aload_n 0, 1)))) <|
  zcons (a := (35, zi_k (.int 0) 36)) (zs_iconst (M := 175) (pc := 35) (zd_eq zk175 (by decide +kernel : decode cX7_kind 35 = .ok (.iconst 0, 1))) (by decide)) <|
  zcons (a := (36, zi_k (.int 155) 39)) (zs_sipush (M := 175) (pc := 36) (zd_eq zk175 (by decide +kernel : decode cX7_kind 36 = .ok (.sipush 155, 3))) (by decide)) <| znil
theorem zS175_1 : ∀ q ∈ zm_c175_1, zm_Snd 175 q.1 q.2 :=
  zcons (a := (39, zi_cv 160 2 7 42 0)) (zs_cv (M := 175) (pc := 39) (M' := 160) (k := 2) (kd := 0) (ci := 7) (q := (RX7, TX7, 26)) (zd_eq zk175 (by decide +kernel : decode cX7_kind 39 = .ok (.invokevirtual 182, 3))) zWd160 (zl_m zo175 zy160 zw_1043) (zl_i zy160 zw_1045) (zl_e zy160 zw_42) (by decide) rfl (by rw [zo160])) <|
  zcons (a := (42, zi_al 0 43)) (zs_al_n (M := 175) (pc := 42) (zd_eq zk175 (by decide +kernel : decode cX7_kind 42 = .ok (.aload_n 0, 1)))) <|
  zcons (a := (43, zi_gr 7 0 46)) (zs_gr (M := 175) (pc := 43) (n := 0) (ci := 7) (k := 0) (C := RX7) (T := TX7) (N := 26) (zd_eq zk175 (by decide +kernel : decode cX7_kind 43 = .ok (.getfield 7, 3))) rfl (by decide) (by decide) zin_7 (zl_f zo175 zw_796)) <|
  zcons (a := (46, zi_k (.int 155) 49)) (zs_sipush (M := 175) (pc := 46) (zd_eq zk175 (by decide +kernel : decode cX7_kind 46 = .ok (.sipush 155, 3))) (by decide)) <|
  zcons (a := (49, zi_il 1 50)) (zs_il_n (M := 175) (pc := 49) (zd_eq zk175 (by decide +kernel : decode cX7_kind 49 = .ok (.iload_n 1, 1)))) <|
  zcons (a := (50, zi_bin (· + ·) 51)) (zs_iadd (M := 175) (pc := 50) (zd_eq zk175 (by decide +kernel : decode cX7_kind 50 = .ok (.iadd, 1)))) <|
  zcons (a := (51, zi_il 5 53)) (zs_il_w (M := 175) (pc := 51) (zd_eq zk175 (by decide +kernel : decode cX7_kind 51 = .ok (.iload 5, 2)))) <|
  zcons (a := (53, zi_ast 0 (fun x => x) 54)) (zs_iast (M := 175) (pc := 53) (zd_eq zk175 (by decide +kernel : decode cX7_kind 53 = .ok (.iastore, 1)))) <|
  zcons (a := (54, zi_al 0 55)) (zs_al_n (M := 175) (pc := 54) (zd_eq zk175 (by decide +kernel : decode cX7_kind 54 = .ok (.aload_n 0, 1)))) <|
  zcons (a := (55, zi_k (.int 155) 58)) (zs_sipush (M := 175) (pc := 55) (zd_eq zk175 (by decide +kernel : decode cX7_kind 55 = .ok (.sipush 155, 3))) (by decide)) <|
  zcons (a := (58, zi_il 1 59)) (zs_il_n (M := 175) (pc := 58) (zd_eq zk175 (by decide +kernel : decode cX7_kind 58 = .ok (.iload_n 1, 1)))) <|
  zcons (a := (59, zi_cv 174 2 7 62 1)) (zs_cv (M := 175) (pc := 59) (M' := 174) (k := 2) (kd := 1) (ci := 7) (q := (RX7, TX7, 26)) (zd_eq zk175 (by decide +kernel : decode cX7_kind 59 = .ok (.invokevirtual 209, 3))) zWd174 (zl_m zo175 zy174 zw_1095) (zl_i zy174 zw_1097) (zl_e zy174 zw_44) (by decide) rfl (by rw [zo174])) <|
  zcons (a := (62, zi_is 6 64)) (zs_is_w (M := 175) (pc := 62) (zd_eq zk175 (by decide +kernel : decode cX7_kind 62 = .ok (.istore 6, 2))) (by decide +kernel) (by decide +kernel)) <|
  zcons (a := (64, zi_il 6 66)) (zs_il_w (M := 175) (pc := 64) (zd_eq zk175 (by decide +kernel : decode cX7_kind 64 = .ok (.iload 6, 2)))) <|
  zcons (a := (66, zi_il 3 67)) (zs_il_n (M := 175) (pc := 66) (zd_eq zk175 (by decide +kernel : decode cX7_kind 66 = .ok (.iload_n 3, 1)))) <|
  zcons (a := (67, zi_b2 (fun x y => x ≤ y) 75 70)) (zs_icmple (M := 175) (pc := 67) (zd_eq zk175 (by decide +kernel : decode cX7_kind 67 = .ok (.if_icmp .le 8, 3))) (by decide)) <|
  zcons (a := (70, zi_il 5 72)) (zs_il_w (M := 175) (pc := 70) (zd_eq zk175 (by decide +kernel : decode cX7_kind 70 = .ok (.iload 5, 2)))) <|
  zcons (a := (72, zi_go 77)) (zs_goto (M := 175) (pc := 72) (zd_eq zk175 (by decide +kernel : decode cX7_kind 72 = .ok (.goto 5, 3))) (by decide)) <|
  zcons (a := (75, zi_il 4 77)) (zs_il_w (M := 175) (pc := 75) (zd_eq zk175 (by decide +kernel : decode cX7_kind 75 = .ok (.iload 4, 2)))) <|
  zcons (a := (77, zi_is 4 79)) (zs_is_w (M := 175) (pc := 77) (zd_eq zk175 (by decide +kernel : decode cX7_kind 77 = .ok (.istore 4, 2))) (by decide +kernel) (by decide +kernel)) <|
  zcons (a := (79, zi_il 6 81)) (zs_il_w (M := 175) (pc := 79) (zd_eq zk175 (by decide +kernel : decode cX7_kind 79 = .ok (.iload 6, 2)))) <|
  zcons (a := (81, zi_il 3 82)) (zs_il_n (M := 175) (pc := 81) (zd_eq zk175 (by decide +kernel : decode cX7_kind 81 = .ok (.iload_n 3, 1)))) <|
  zcons (a := (82, zi_b2 (fun x y => x ≤ y) 90 85)) (zs_icmple (M := 175) (pc := 82) (zd_eq zk175 (by decide +kernel : decode cX7_kind 82 = .ok (.if_icmp .le 8, 3))) (by decide)) <|
  zcons (a := (85, zi_il 6 87)) (zs_il_w (M := 175) (pc := 85) (zd_eq zk175 (by decide +kernel : decode cX7_kind 85 = .ok (.iload 6, 2)))) <| znil
theorem zS175_2 : ∀ q ∈ zm_c175_2, zm_Snd 175 q.1 q.2 :=
  zcons (a := (87, zi_go 91)) (zs_goto (M := 175) (pc := 87) (zd_eq zk175 (by decide +kernel : decode cX7_kind 87 = .ok (.goto 4, 3))) (by decide)) <|
  zcons (a := (90, zi_il 3 91)) (zs_il_n (M := 175) (pc := 90) (zd_eq zk175 (by decide +kernel : decode cX7_kind 90 = .ok (.iload_n 3, 1)))) <|
  zcons (a := (91, zi_is 3 92)) (zs_is_n (M := 175) (pc := 91) (zd_eq zk175 (by decide +kernel : decode cX7_kind 91 = .ok (.istore_n 3, 1))) (by decide +kernel) (by decide +kernel)) <|
  zcons (a := (92, zi_inc 5 1 95)) (zs_inc (M := 175) (pc := 92) (zd_eq zk175 (by decide +kernel : decode cX7_kind 92 = .ok (.iinc 5 1, 3))) (by decide) (by decide +kernel) (by decide +kernel)) <|
  zcons (a := (95, zi_go 28)) (zs_goto (M := 175) (pc := 95) (zd_eq zk175 (by decide +kernel : decode cX7_kind 95 = .ok (.goto (-67), 3))) (by decide)) <|
  zcons (a := (98, zi_il 2 99)) (zs_il_n (M := 175) (pc := 98) (zd_eq zk175 (by decide +kernel : decode cX7_kind 98 = .ok (.iload_n 2, 1)))) <|
  zcons (a := (99, zi_b1 (fun x => ¬ x = 0) 107 102)) (zs_ifne (M := 175) (pc := 99) (zd_eq zk175 (by decide +kernel : decode cX7_kind 99 = .ok (.ifCond .ne 8, 3))) (by decide)) <|
  zcons (a := (102, zi_il 4 104)) (zs_il_w (M := 175) (pc := 102) (zd_eq zk175 (by decide +kernel : decode cX7_kind 102 = .ok (.iload 4, 2)))) <|
  zcons (a := (104, zi_go 108)) (zs_goto (M := 175) (pc := 104) (zd_eq zk175 (by decide +kernel : decode cX7_kind 104 = .ok (.goto 4, 3))) (by decide)) <|
  zcons (a := (107, zi_il 3 108)) (zs_il_n (M := 175) (pc := 107) (zd_eq zk175 (by decide +kernel : decode cX7_kind 107 = .ok (.iload_n 3, 1)))) <|
  zcons (a := (108, zi_ri)) (zs_ri (M := 175) (pc := 108) (zd_eq zk175 (by decide +kernel : decode cX7_kind 108 = .ok (.ireturn, 1))) rfl) <| znil
theorem zS175 : ∀ pc, zm_Snd 175 pc (zm_lk2 zm_c175 pc) := zlk2 (zcons2 zS175_0 (zcons2 zS175_1 (zcons2 zS175_2 (znil2))))
theorem zS176_0 : ∀ q ∈ zm_c176_0, zm_Snd 176 q.1 q.2 :=
  zcons (a := (0, zi_al 0 1)) (zs_al_n (M := 176) (pc := 0) (zd_eq zk176 (by decide +kernel : decode cX7_face 0 = .ok (.aload_n 0, 1)))) <|
  zcons (a := (1, zi_il 1 2)) (zs_il_n (M := 176) (pc := 1) (zd_eq zk176 (by decide +kernel : decode cX7_face 1 = .ok (.iload_n 1, 1)))) <|
  zcons (a := (2, zi_cv 135 1 7 5 1)) (zs_cv (M := 176) (pc := 2) (M' := 135) (k := 1) (kd := 1) (ci := 7) (q := (RX7, TX7, 26)) (zd_eq zk176 (by decide +kernel : decode cX7_face 2 = .ok (.invokevirtual 150, 3))) zWd135 (zl_m zo176 zy135 zw_953) (zl_i zy135 zw_955) (zl_e zy135 zw_31) (by decide) rfl (by rw [zo135])) <|
  zcons (a := (5, zi_b1 (fun x => x = 0) 18 8)) (zs_ifeq (M := 176) (pc := 5) (zd_eq zk176 (by decide +kernel : decode cX7_face 5 = .ok (.ifCond .eq 13, 3))) (by decide)) <|
  zcons (a := (8, zi_il 2 9)) (zs_il_n (M := 176) (pc := 8) (zd_eq zk176 (by decide +kernel : decode cX7_face 8 = .ok (.iload_n 2, 1)))) <|
  zcons (a := (9, zi_i2l 10)) (zs_i2l (M := 176) (pc := 9) (zd_eq zk176 (by decide +kernel : decode cX7_face 9 = .ok (.i2l, 1)))) <|
  zcons (a := (10, zi_k (.long 0) 11)) (zs_lconst (M := 176) (pc := 10) (zd_eq zk176 (by decide +kernel : decode cX7_face 10 = .ok (.lconst 0, 1))) (by decide)) <|
  zcons (a := (11, zi_k (.long 1) 12)) (zs_lconst (M := 176) (pc := 11) (zd_eq zk176 (by decide +kernel : decode cX7_face 11 = .ok (.lconst 1, 1))) (by decide)) <|
  zcons (a := (12, zi_cs 123 3 15 1)) (zs_cs (M := 176) (pc := 12) (M' := 123) (k := 3) (kd := 1) (zd_eq zk176 (by decide +kernel : decode cX7_face 12 = .ok (.invokestatic 49, 3))) zWd123 (zl_m zo176 zy123 zw_880) (zl_s zy123 zw_881)) <|
  zcons (a := (15, zi_b1 (fun x => ¬ x = 0) 20 18)) (zs_ifne (M := 176) (pc := 15) (zd_eq zk176 (by decide +kernel : decode cX7_face 15 = .ok (.ifCond .ne 5, 3))) (by decide)) <|
  zcons (a := (18, zi_k (.int (-1)) 19)) (zs_iconst (M := 176) (pc := 18) (zd_eq zk176 (by decide +kernel : decode cX7_face 18 = .ok (.iconst (-1), 1))) (by decide)) <|
  zcons (a := (19, zi_ri)) (zs_ri (M := 176) (pc := 19) (zd_eq zk176 (by decide +kernel : decode cX7_face 19 = .ok (.ireturn, 1))) rfl) <|
  zcons (a := (20, zi_k (.int (-1)) 21)) (zs_iconst (M := 176) (pc := 20) (zd_eq zk176 (by decide +kernel : decode cX7_face 20 = .ok (.iconst (-1), 1))) (by decide)) <|
  zcons (a := (21, zi_is 3 22)) (zs_is_n (M := 176) (pc := 21) (zd_eq zk176 (by decide +kernel : decode cX7_face 21 = .ok (.istore_n 3, 1))) (by decide +kernel) (by decide +kernel)) <|
  zcons (a := (22, zi_k (.int 0) 23)) (zs_iconst (M := 176) (pc := 22) (zd_eq zk176 (by decide +kernel : decode cX7_face 22 = .ok (.iconst 0, 1))) (by decide)) <|
  zcons (a := (23, zi_is 4 25)) (zs_is_w (M := 176) (pc := 23) (zd_eq zk176 (by decide +kernel : decode cX7_face 23 = .ok (.istore 4, 2))) (by decide +kernel) (by decide +kernel)) <|
  zcons (a := (25, zi_k (.int 0) 26)) (zs_iconst (M := 176) (pc := 25) (zd_eq zk176 (by decide +kernel : decode cX7_face 25 = .ok (.iconst 0, 1))) (by decide)) <|
  zcons (a := (26, zi_is 5 28)) (zs_is_w (M := 176) (pc := 26) (zd_eq zk176 (by decide +kernel : decode cX7_face 26 = .ok (.istore 5, 2))) (by decide +kernel) (by decide +kernel)) <|
  zcons (a := (28, zi_il 5 30)) (zs_il_w (M := 176) (pc := 28) (zd_eq zk176 (by decide +kernel : decode cX7_face 28 = .ok (.iload 5, 2)))) <|
  zcons (a := (30, zi_k (.int 40) 32)) (zs_bipush (M := 176) (pc := 30) (zd_eq zk176 (by decide +kernel : decode cX7_face 30 = .ok (.bipush 40, 2))) (by decide)) <|
  zcons (a := (32, zi_b2 (fun x y => y < x) 102 35)) (zs_icmpgt (M := 176) (pc := 32) (zd_eq zk176 (by decide +kernel : decode cX7_face 32 = .ok (.if_icmp .gt 70, 3))) (by decide)) <|
  zcons (a := (35, zi_al 0 36)) (zs_al_n (M := 176) (pc := 35) (zd_eq zk176 (by decide +kernel : decode cX7_face 35 = .ok (.aload_n 0, 1)))) <|
  zcons (a := (36, zi_k (.int 0) 37)) (zs_iconst (M := 176) (pc := 36) (zd_eq zk176 (by decide +kernel : decode cX7_face 36 = .ok (.iconst 0, 1))) (by decide)) <|
  zcons (a := (37, zi_k (.int 155) 40)) (zs_sipush (M := 176) (pc := 37) (zd_eq zk176 (by decide +kernel : decode cX7_face 37 = .ok (.sipush 155, 3))) (by decide)) <| znil
theorem zS176_1 : ∀ q ∈ zm_c176_1, zm_Snd 176 q.1 q.2 :=
  zcons (a := (40, zi_cv 160 2 7 43 0)) (zs_cv (M := 176) (pc := 40) (M' := 160) (k := 2) (kd := 0) (ci := 7) (q := (RX7, TX7, 26)) (zd_eq zk176 (by decide +kernel : decode cX7_face 40 = .ok (.invokevirtual 182, 3))) zWd160 (zl_m zo176 zy160 zw_1043) (zl_i zy160 zw_1045) (zl_e zy160 zw_42) (by decide) rfl (by rw [zo160])) <|
  zcons (a := (43, zi_al 0 44)) (zs_al_n (M := 176) (pc := 43) (zd_eq zk176 (by decide +kernel : decode cX7_face 43 = .ok (.aload_n 0, 1)))) <|
  zcons (a := (44, zi_gr 7 0 47)) (zs_gr (M := 176) (pc := 44) (n := 0) (ci := 7) (k := 0) (C := RX7) (T := TX7) (N := 26) (zd_eq zk176 (by decide +kernel : decode cX7_face 44 = .ok (.getfield 7, 3))) rfl (by decide) (by decide) zin_7 (zl_f zo176 zw_796)) <|
  zcons (a := (47, zi_k (.int 165) 50)) (zs_sipush (M := 176) (pc := 47) (zd_eq zk176 (by decide +kernel : decode cX7_face 47 = .ok (.sipush 165, 3))) (by decide)) <|
  zcons (a := (50, zi_il 1 51)) (zs_il_n (M := 176) (pc := 50) (zd_eq zk176 (by decide +kernel : decode cX7_face 50 = .ok (.iload_n 1, 1)))) <|
  zcons (a := (51, zi_bin (· + ·) 52)) (zs_iadd (M := 176) (pc := 51) (zd_eq zk176 (by decide +kernel : decode cX7_face 51 = .ok (.iadd, 1)))) <|
  zcons (a := (52, zi_il 5 54)) (zs_il_w (M := 176) (pc := 52) (zd_eq zk176 (by decide +kernel : decode cX7_face 52 = .ok (.iload 5, 2)))) <|
  zcons (a := (54, zi_k (.int 20) 56)) (zs_bipush (M := 176) (pc := 54) (zd_eq zk176 (by decide +kernel : decode cX7_face 54 = .ok (.bipush 20, 2))) (by decide)) <|
  zcons (a := (56, zi_bin (· - ·) 57)) (zs_isub (M := 176) (pc := 56) (zd_eq zk176 (by decide +kernel : decode cX7_face 56 = .ok (.isub, 1)))) <|
  zcons (a := (57, zi_ast 0 (fun x => x) 58)) (zs_iast (M := 176) (pc := 57) (zd_eq zk176 (by decide +kernel : decode cX7_face 57 = .ok (.iastore, 1)))) <|
  zcons (a := (58, zi_al 0 59)) (zs_al_n (M := 176) (pc := 58) (zd_eq zk176 (by decide +kernel : decode cX7_face 58 = .ok (.aload_n 0, 1)))) <|
  zcons (a := (59, zi_k (.int 155) 62)) (zs_sipush (M := 176) (pc := 59) (zd_eq zk176 (by decide +kernel : decode cX7_face 59 = .ok (.sipush 155, 3))) (by decide)) <|
  zcons (a := (62, zi_il 1 63)) (zs_il_n (M := 176) (pc := 62) (zd_eq zk176 (by decide +kernel : decode cX7_face 62 = .ok (.iload_n 1, 1)))) <|
  zcons (a := (63, zi_cv 174 2 7 66 1)) (zs_cv (M := 176) (pc := 63) (M' := 174) (k := 2) (kd := 1) (ci := 7) (q := (RX7, TX7, 26)) (zd_eq zk176 (by decide +kernel : decode cX7_face 63 = .ok (.invokevirtual 209, 3))) zWd174 (zl_m zo176 zy174 zw_1095) (zl_i zy174 zw_1097) (zl_e zy174 zw_44) (by decide) rfl (by rw [zo174])) <|
  zcons (a := (66, zi_is 6 68)) (zs_is_w (M := 176) (pc := 66) (zd_eq zk176 (by decide +kernel : decode cX7_face 66 = .ok (.istore 6, 2))) (by decide +kernel) (by decide +kernel)) <|
  zcons (a := (68, zi_il 6 70)) (zs_il_w (M := 176) (pc := 68) (zd_eq zk176 (by decide +kernel : decode cX7_face 68 = .ok (.iload 6, 2)))) <|
  zcons (a := (70, zi_il 3 71)) (zs_il_n (M := 176) (pc := 70) (zd_eq zk176 (by decide +kernel : decode cX7_face 70 = .ok (.iload_n 3, 1)))) <|
  zcons (a := (71, zi_b2 (fun x y => x ≤ y) 79 74)) (zs_icmple (M := 176) (pc := 71) (zd_eq zk176 (by decide +kernel : decode cX7_face 71 = .ok (.if_icmp .le 8, 3))) (by decide)) <|
  zcons (a := (74, zi_il 5 76)) (zs_il_w (M := 176) (pc := 74) (zd_eq zk176 (by decide +kernel : decode cX7_face 74 = .ok (.iload 5, 2)))) <|
  zcons (a := (76, zi_go 81)) (zs_goto (M := 176) (pc := 76) (zd_eq zk176 (by decide +kernel : decode cX7_face 76 = .ok (.goto 5, 3))) (by decide)) <|
  zcons (a := (79, zi_il 4 81)) (zs_il_w (M := 176) (pc := 79) (zd_eq zk176 (by decide +kernel : decode cX7_face 79 = .ok (.iload 4, 2)))) <|
  zcons (a := (81, zi_is 4 83)) (zs_is_w (M := 176) (pc := 81) (zd_eq zk176 (by decide +kernel : decode cX7_face 81 = .ok (.istore 4, 2))) (by decide +kernel) (by decide +kernel)) <|
  zcons (a := (83, zi_il 6 85)) (zs_il_w (M := 176) (pc := 83) (zd_eq zk176 (by decide +kernel : decode cX7_face 83 = .ok (.iload 6, 2)))) <|
  zcons (a := (85, zi_il 3 86)) (zs_il_n (M := 176) (pc := 85) (zd_eq zk176 (by decide +kernel : decode cX7_face 85 = .ok (.iload_n 3, 1)))) <| znil
theorem zS176_2 : ∀ q ∈ zm_c176_2, zm_Snd 176 q.1 q.2 :=
  zcons (a := (86, zi_b2 (fun x y => x ≤ y) 94 89)) (zs_icmple (M := 176) (pc := 86) (zd_eq zk176 (by decide +kernel : decode cX7_face 86 = .ok (.if_icmp .le 8, 3))) (by decide)) <|
  zcons (a := (89, zi_il 6 91)) (zs_il_w (M := 176) (pc := 89) (zd_eq zk176 (by decide +kernel : decode cX7_face 89 = .ok (.iload 6, 2)))) <|
  zcons (a := (91, zi_go 95)) (zs_goto (M := 176) (pc := 91) (zd_eq zk176 (by decide +kernel : decode cX7_face 91 = .ok (.goto 4, 3))) (by decide)) <|
  zcons (a := (94, zi_il 3 95)) (zs_il_n (M := 176) (pc := 94) (zd_eq zk176 (by decide +kernel : decode cX7_face 94 = .ok (.iload_n 3, 1)))) <|
  zcons (a := (95, zi_is 3 96)) (zs_is_n (M := 176) (pc := 95) (zd_eq zk176 (by decide +kernel : decode cX7_face 95 = .ok (.istore_n 3, 1))) (by decide +kernel) (by decide +kernel)) <|
  zcons (a := (96, zi_inc 5 1 99)) (zs_inc (M := 176) (pc := 96) (zd_eq zk176 (by decide +kernel : decode cX7_face 96 = .ok (.iinc 5 1, 3))) (by decide) (by decide +kernel) (by decide +kernel)) <|
  zcons (a := (99, zi_go 28)) (zs_goto (M := 176) (pc := 99) (zd_eq zk176 (by decide +kernel : decode cX7_face 99 = .ok (.goto (-71), 3))) (by decide)) <|
  zcons (a := (102, zi_il 2 103)) (zs_il_n (M := 176) (pc := 102) (zd_eq zk176 (by decide +kernel : decode cX7_face 102 = .ok (.iload_n 2, 1)))) <|
  zcons (a := (103, zi_b1 (fun x => ¬ x = 0) 111 106)) (zs_ifne (M := 176) (pc := 103) (zd_eq zk176 (by decide +kernel : decode cX7_face 103 = .ok (.ifCond .ne 8, 3))) (by decide)) <|
  zcons (a := (106, zi_il 4 108)) (zs_il_w (M := 176) (pc := 106) (zd_eq zk176 (by decide +kernel : decode cX7_face 106 = .ok (.iload 4, 2)))) <|
  zcons (a := (108, zi_go 112)) (zs_goto (M := 176) (pc := 108) (zd_eq zk176 (by decide +kernel : decode cX7_face 108 = .ok (.goto 4, 3))) (by decide)) <|
  zcons (a := (111, zi_il 3 112)) (zs_il_n (M := 176) (pc := 111) (zd_eq zk176 (by decide +kernel : decode cX7_face 111 = .ok (.iload_n 3, 1)))) <|
  zcons (a := (112, zi_ri)) (zs_ri (M := 176) (pc := 112) (zd_eq zk176 (by decide +kernel : decode cX7_face 112 = .ok (.ireturn, 1))) rfl) <| znil
theorem zS176 : ∀ pc, zm_Snd 176 pc (zm_lk2 zm_c176 pc) := zlk2 (zcons2 zS176_0 (zcons2 zS176_1 (zcons2 zS176_2 (znil2))))
theorem zS177_0 : ∀ q ∈ zm_c177_0, zm_Snd 177 q.1 q.2 :=
  zcons (a := (0, zi_al 0 1)) (zs_al_n (M := 177) (pc := 0) (zd_eq zk177 (by decide +kernel : decode cX7_thaw 0 = .ok (.aload_n 0, 1)))) <|
  zcons (a := (1, zi_il 1 2)) (zs_il_n (M := 177) (pc := 1) (zd_eq zk177 (by decide +kernel : decode cX7_thaw 1 = .ok (.iload_n 1, 1)))) <|
  zcons (a := (2, zi_cv 135 1 7 5 1)) (zs_cv (M := 177) (pc := 2) (M' := 135) (k := 1) (kd := 1) (ci := 7) (q := (RX7, TX7, 26)) (zd_eq zk177 (by decide +kernel : decode cX7_thaw 2 = .ok (.invokevirtual 150, 3))) zWd135 (zl_m zo177 zy135 zw_953) (zl_i zy135 zw_955) (zl_e zy135 zw_31) (by decide) rfl (by rw [zo135])) <|
  zcons (a := (5, zi_b1 (fun x => x = 0) 20 8)) (zs_ifeq (M := 177) (pc := 5) (zd_eq zk177 (by decide +kernel : decode cX7_thaw 5 = .ok (.ifCond .eq 15, 3))) (by decide)) <|
  zcons (a := (8, zi_il 2 9)) (zs_il_n (M := 177) (pc := 8) (zd_eq zk177 (by decide +kernel : decode cX7_thaw 8 = .ok (.iload_n 2, 1)))) <|
  zcons (a := (9, zi_i2l 10)) (zs_i2l (M := 177) (pc := 9) (zd_eq zk177 (by decide +kernel : decode cX7_thaw 9 = .ok (.i2l, 1)))) <|
  zcons (a := (10, zi_k (.long 0) 11)) (zs_lconst (M := 177) (pc := 10) (zd_eq zk177 (by decide +kernel : decode cX7_thaw 10 = .ok (.lconst 0, 1))) (by decide)) <|
  zcons (a := (11, zi_k (.long 60) 14)) (zs_ldc2 (M := 177) (pc := 11) (zd_eq zk177 (by decide +kernel : decode cX7_thaw 11 = .ok (.ldc2_w 195, 3))) (zl_k2 zo177 zw_1038)) <|
  zcons (a := (14, zi_cs 123 3 17 1)) (zs_cs (M := 177) (pc := 14) (M' := 123) (k := 3) (kd := 1) (zd_eq zk177 (by decide +kernel : decode cX7_thaw 14 = .ok (.invokestatic 49, 3))) zWd123 (zl_m zo177 zy123 zw_880) (zl_s zy123 zw_881)) <|
  zcons (a := (17, zi_b1 (fun x => ¬ x = 0) 22 20)) (zs_ifne (M := 177) (pc := 17) (zd_eq zk177 (by decide +kernel : decode cX7_thaw 17 = .ok (.ifCond .ne 5, 3))) (by decide)) <|
  zcons (a := (20, zi_k (.int (-1)) 21)) (zs_iconst (M := 177) (pc := 20) (zd_eq zk177 (by decide +kernel : decode cX7_thaw 20 = .ok (.iconst (-1), 1))) (by decide)) <|
  zcons (a := (21, zi_ri)) (zs_ri (M := 177) (pc := 21) (zd_eq zk177 (by decide +kernel : decode cX7_thaw 21 = .ok (.ireturn, 1))) rfl) <|
  zcons (a := (22, zi_k (.int 9) 24)) (zs_bipush (M := 177) (pc := 22) (zd_eq zk177 (by decide +kernel : decode cX7_thaw 22 = .ok (.bipush 9, 2))) (by decide)) <|
  zcons (a := (24, zi_is 3 25)) (zs_is_n (M := 177) (pc := 24) (zd_eq zk177 (by decide +kernel : decode cX7_thaw 24 = .ok (.istore_n 3, 1))) (by decide +kernel) (by decide +kernel)) <|
  zcons (a := (25, zi_il 3 26)) (zs_il_n (M := 177) (pc := 25) (zd_eq zk177 (by decide +kernel : decode cX7_thaw 25 = .ok (.iload_n 3, 1)))) <|
  zcons (a := (26, zi_b1 (fun x => x < 0) 96 29)) (zs_iflt (M := 177) (pc := 26) (zd_eq zk177 (by decide +kernel : decode cX7_thaw 26 = .ok (.ifCond .lt 70, 3))) (by decide)) <|
  zcons (a := (29, zi_al 0 30)) (zs_al_n (M := 177) (pc := 29) (zd_eq zk177 (by decide +kernel : decode cX7_thaw 29 = .ok (.aload_n 0, 1)))) <|
  zcons (a := (30, zi_k (.int 0) 31)) (zs_iconst (M := 177) (pc := 30) (zd_eq zk177 (by decide +kernel : decode cX7_thaw 30 = .ok (.iconst 0, 1))) (by decide)) <|
  zcons (a := (31, zi_k (.int 155) 34)) (zs_sipush (M := 177) (pc := 31) (zd_eq zk177 (by decide +kernel : decode cX7_thaw 31 = .ok (.sipush 155, 3))) (by decide)) <|
  zcons (a := (34, zi_cv 160 2 7 37 0)) (zs_cv (M := 177) (pc := 34) (M' := 160) (k := 2) (kd := 0) (ci := 7) (q := (RX7, TX7, 26)) (zd_eq zk177 (by decide +kernel : decode cX7_thaw 34 = .ok (.invokevirtual 182, 3))) zWd160 (zl_m zo177 zy160 zw_1043) (zl_i zy160 zw_1045) (zl_e zy160 zw_42) (by decide) rfl (by rw [zo160])) <|
  zcons (a := (37, zi_k (.int 0) 38)) (zs_iconst (M := 177) (pc := 37) (zd_eq zk177 (by decide +kernel : decode cX7_thaw 37 = .ok (.iconst 0, 1))) (by decide)) <|
  zcons (a := (38, zi_is 4 40)) (zs_is_w (M := 177) (pc := 38) (zd_eq zk177 (by decide +kernel : decode cX7_thaw 38 = .ok (.istore 4, 2))) (by decide +kernel) (by decide +kernel)) <|
  zcons (a := (40, zi_il 4 42)) (zs_il_w (M := 177) (pc := 40) (zd_eq zk177 (by decide +kernel : decode cX7_thaw 40 = .ok (.iload 4, 2)))) <|
  zcons (a := (42, zi_k (.int 7) 44)) (zs_bipush (M := 177) (pc := 42) (zd_eq zk177 (by decide +kernel : decode cX7_thaw 42 = .ok (.bipush 7, 2))) (by decide)) <| znil
theorem zS177_1 : ∀ q ∈ zm_c177_1, zm_Snd 177 q.1 q.2 :=
  zcons (a := (44, zi_b2 (fun x y => y ≤ x) 67 47)) (zs_icmpge (M := 177) (pc := 44) (zd_eq zk177 (by decide +kernel : decode cX7_thaw 44 = .ok (.if_icmp .ge 23, 3))) (by decide)) <|
  zcons (a := (47, zi_al 0 48)) (zs_al_n (M := 177) (pc := 47) (zd_eq zk177 (by decide +kernel : decode cX7_thaw 47 = .ok (.aload_n 0, 1)))) <|
  zcons (a := (48, zi_gr 7 0 51)) (zs_gr (M := 177) (pc := 48) (n := 0) (ci := 7) (k := 0) (C := RX7) (T := TX7) (N := 26) (zd_eq zk177 (by decide +kernel : decode cX7_thaw 48 = .ok (.getfield 7, 3))) rfl (by decide) (by decide) zin_7 (zl_f zo177 zw_796)) <|
  zcons (a := (51, zi_k (.int 171) 54)) (zs_sipush (M := 177) (pc := 51) (zd_eq zk177 (by decide +kernel : decode cX7_thaw 51 = .ok (.sipush 171, 3))) (by decide)) <|
  zcons (a := (54, zi_il 4 56)) (zs_il_w (M := 177) (pc := 54) (zd_eq zk177 (by decide +kernel : decode cX7_thaw 54 = .ok (.iload 4, 2)))) <|
  zcons (a := (56, zi_bin (· + ·) 57)) (zs_iadd (M := 177) (pc := 56) (zd_eq zk177 (by decide +kernel : decode cX7_thaw 56 = .ok (.iadd, 1)))) <|
  zcons (a := (57, zi_il 3 58)) (zs_il_n (M := 177) (pc := 57) (zd_eq zk177 (by decide +kernel : decode cX7_thaw 57 = .ok (.iload_n 3, 1)))) <|
  zcons (a := (58, zi_k (.int 1) 59)) (zs_iconst (M := 177) (pc := 58) (zd_eq zk177 (by decide +kernel : decode cX7_thaw 58 = .ok (.iconst 1, 1))) (by decide)) <|
  zcons (a := (59, zi_bin (· - ·) 60)) (zs_isub (M := 177) (pc := 59) (zd_eq zk177 (by decide +kernel : decode cX7_thaw 59 = .ok (.isub, 1)))) <|
  zcons (a := (60, zi_ast 0 (fun x => x) 61)) (zs_iast (M := 177) (pc := 60) (zd_eq zk177 (by decide +kernel : decode cX7_thaw 60 = .ok (.iastore, 1)))) <|
  zcons (a := (61, zi_inc 4 1 64)) (zs_inc (M := 177) (pc := 61) (zd_eq zk177 (by decide +kernel : decode cX7_thaw 61 = .ok (.iinc 4 1, 3))) (by decide) (by decide +kernel) (by decide +kernel)) <|
  zcons (a := (64, zi_go 40)) (zs_goto (M := 177) (pc := 64) (zd_eq zk177 (by decide +kernel : decode cX7_thaw 64 = .ok (.goto (-24), 3))) (by decide)) <|
  zcons (a := (67, zi_al 0 68)) (zs_al_n (M := 177) (pc := 67) (zd_eq zk177 (by decide +kernel : decode cX7_thaw 67 = .ok (.aload_n 0, 1)))) <|
  zcons (a := (68, zi_k (.int 155) 71)) (zs_sipush (M := 177) (pc := 68) (zd_eq zk177 (by decide +kernel : decode cX7_thaw 68 = .ok (.sipush 155, 3))) (by decide)) <|
  zcons (a := (71, zi_il 2 72)) (zs_il_n (M := 177) (pc := 71) (zd_eq zk177 (by decide +kernel : decode cX7_thaw 71 = .ok (.iload_n 2, 1)))) <|
  zcons (a := (72, zi_cv 161 2 7 75 0)) (zs_cv (M := 177) (pc := 72) (M' := 161) (k := 2) (kd := 0) (ci := 7) (q := (RX7, TX7, 26)) (zd_eq zk177 (by decide +kernel : decode cX7_thaw 72 = .ok (.invokevirtual 197, 3))) zWd161 (zl_m zo177 zy161 zw_1039) (zl_i zy161 zw_1041) (zl_e zy161 zw_41) (by decide) rfl (by rw [zo161])) <|
  zcons (a := (75, zi_al 0 76)) (zs_al_n (M := 177) (pc := 75) (zd_eq zk177 (by decide +kernel : decode cX7_thaw 75 = .ok (.aload_n 0, 1)))) <|
  zcons (a := (76, zi_gr 7 0 79)) (zs_gr (M := 177) (pc := 76) (n := 0) (ci := 7) (k := 0) (C := RX7) (T := TX7) (N := 26) (zd_eq zk177 (by decide +kernel : decode cX7_thaw 76 = .ok (.getfield 7, 3))) rfl (by decide) (by decide) zin_7 (zl_f zo177 zw_796)) <|
  zcons (a := (79, zi_k (.int 129) 82)) (zs_sipush (M := 177) (pc := 79) (zd_eq zk177 (by decide +kernel : decode cX7_thaw 79 = .ok (.sipush 129, 3))) (by decide)) <|
  zcons (a := (82, zi_il 1 83)) (zs_il_n (M := 177) (pc := 82) (zd_eq zk177 (by decide +kernel : decode cX7_thaw 82 = .ok (.iload_n 1, 1)))) <|
  zcons (a := (83, zi_bin (· + ·) 84)) (zs_iadd (M := 177) (pc := 83) (zd_eq zk177 (by decide +kernel : decode cX7_thaw 83 = .ok (.iadd, 1)))) <|
  zcons (a := (84, zi_ald 0 85)) (zs_iald (M := 177) (pc := 84) (zd_eq zk177 (by decide +kernel : decode cX7_thaw 84 = .ok (.iaload, 1)))) <|
  zcons (a := (85, zi_b1 (fun x => x ≤ 0) 90 88)) (zs_ifle (M := 177) (pc := 85) (zd_eq zk177 (by decide +kernel : decode cX7_thaw 85 = .ok (.ifCond .le 5, 3))) (by decide)) <|
  zcons (a := (88, zi_il 3 89)) (zs_il_n (M := 177) (pc := 88) (zd_eq zk177 (by decide +kernel : decode cX7_thaw 88 = .ok (.iload_n 3, 1)))) <| znil
theorem zS177_2 : ∀ q ∈ zm_c177_2, zm_Snd 177 q.1 q.2 :=
  zcons (a := (89, zi_ri)) (zs_ri (M := 177) (pc := 89) (zd_eq zk177 (by decide +kernel : decode cX7_thaw 89 = .ok (.ireturn, 1))) rfl) <|
  zcons (a := (90, zi_inc 3 (-1) 93)) (zs_inc (M := 177) (pc := 90) (zd_eq zk177 (by decide +kernel : decode cX7_thaw 90 = .ok (.iinc 3 (-1), 3))) (by decide) (by decide +kernel) (by decide +kernel)) <|
  zcons (a := (93, zi_go 25)) (zs_goto (M := 177) (pc := 93) (zd_eq zk177 (by decide +kernel : decode cX7_thaw 93 = .ok (.goto (-68), 3))) (by decide)) <|
  zcons (a := (96, zi_k (.int (-4)) 98)) (zs_bipush (M := 177) (pc := 96) (zd_eq zk177 (by decide +kernel : decode cX7_thaw 96 = .ok (.bipush (-4), 2))) (by decide)) <|
  zcons (a := (98, zi_ri)) (zs_ri (M := 177) (pc := 98) (zd_eq zk177 (by decide +kernel : decode cX7_thaw 98 = .ok (.ireturn, 1))) rfl) <| znil
theorem zS177 : ∀ pc, zm_Snd 177 pc (zm_lk2 zm_c177 pc) := zlk2 (zcons2 zS177_0 (zcons2 zS177_1 (zcons2 zS177_2 (znil2))))
theorem zS178_0 : ∀ q ∈ zm_c178_0, zm_Snd 178 q.1 q.2 :=
  zcons (a := (0, zi_k (.long 0) 1)) (zs_lconst (M := 178) (pc := 0) (zd_eq zk178 (by decide +kernel : decode cX7_bySalt 0 = .ok (.lconst 0, 1))) (by decide)) <|
  zcons (a := (1, zi_ls 5 3)) (zs_ls_w (M := 178) (pc := 1) (zd_eq zk178 (by decide +kernel : decode cX7_bySalt 1 = .ok (.lstore 5, 2))) (by decide +kernel) (by decide +kernel) (by decide +kernel)) <|
  zcons (a := (3, zi_k (.long 1) 4)) (zs_lconst (M := 178) (pc := 3) (zd_eq zk178 (by decide +kernel : decode cX7_bySalt 3 = .ok (.lconst 1, 1))) (by decide)) <|
  zcons (a := (4, zi_ls 7 6)) (zs_ls_w (M := 178) (pc := 4) (zd_eq zk178 (by decide +kernel : decode cX7_bySalt 4 = .ok (.lstore 7, 2))) (by decide +kernel) (by decide +kernel) (by decide +kernel)) <|
  zcons (a := (6, zi_k (.int 0) 7)) (zs_iconst (M := 178) (pc := 6) (zd_eq zk178 (by decide +kernel : decode cX7_bySalt 6 = .ok (.iconst 0, 1))) (by decide)) <|
  zcons (a := (7, zi_is 9 9)) (zs_is_w (M := 178) (pc := 7) (zd_eq zk178 (by decide +kernel : decode cX7_bySalt 7 = .ok (.istore 9, 2))) (by decide +kernel) (by decide +kernel)) <|
  zcons (a := (9, zi_il 9 11)) (zs_il_w (M := 178) (pc := 9) (zd_eq zk178 (by decide +kernel : decode cX7_bySalt 9 = .ok (.iload 9, 2)))) <|
  zcons (a := (11, zi_il 2 12)) (zs_il_n (M := 178) (pc := 11) (zd_eq zk178 (by decide +kernel : decode cX7_bySalt 11 = .ok (.iload_n 2, 1)))) <|
  zcons (a := (12, zi_b2 (fun x y => y ≤ x) 29 15)) (zs_icmpge (M := 178) (pc := 12) (zd_eq zk178 (by decide +kernel : decode cX7_bySalt 12 = .ok (.if_icmp .ge 17, 3))) (by decide)) <|
  zcons (a := (15, zi_ll 7 17)) (zs_ll_w (M := 178) (pc := 15) (zd_eq zk178 (by decide +kernel : decode cX7_bySalt 15 = .ok (.lload 7, 2)))) <|
  zcons (a := (17, zi_k (.long 10) 20)) (zs_ldc2 (M := 178) (pc := 17) (zd_eq zk178 (by decide +kernel : decode cX7_bySalt 17 = .ok (.ldc2_w 212, 3))) (zl_k2 zo178 zw_1111)) <|
  zcons (a := (20, zi_lbin (· * ·) 21)) (zs_lmul (M := 178) (pc := 20) (zd_eq zk178 (by decide +kernel : decode cX7_bySalt 20 = .ok (.lmul, 1)))) <|
  zcons (a := (21, zi_ls 7 23)) (zs_ls_w (M := 178) (pc := 21) (zd_eq zk178 (by decide +kernel : decode cX7_bySalt 21 = .ok (.lstore 7, 2))) (by decide +kernel) (by decide +kernel) (by decide +kernel)) <|
  zcons (a := (23, zi_inc 9 1 26)) (zs_inc (M := 178) (pc := 23) (zd_eq zk178 (by decide +kernel : decode cX7_bySalt 23 = .ok (.iinc 9 1, 3))) (by decide) (by decide +kernel) (by decide +kernel)) <|
  zcons (a := (26, zi_go 9)) (zs_goto (M := 178) (pc := 26) (zd_eq zk178 (by decide +kernel : decode cX7_bySalt 26 = .ok (.goto (-17), 3))) (by decide)) <|
  zcons (a := (29, zi_k (.int 0) 30)) (zs_iconst (M := 178) (pc := 29) (zd_eq zk178 (by decide +kernel : decode cX7_bySalt 29 = .ok (.iconst 0, 1))) (by decide)) <|
  zcons (a := (30, zi_is 9 32)) (zs_is_w (M := 178) (pc := 30) (zd_eq zk178 (by decide +kernel : decode cX7_bySalt 30 = .ok (.istore 9, 2))) (by decide +kernel) (by decide +kernel)) <|
  zcons (a := (32, zi_il 9 34)) (zs_il_w (M := 178) (pc := 32) (zd_eq zk178 (by decide +kernel : decode cX7_bySalt 32 = .ok (.iload 9, 2)))) <|
  zcons (a := (34, zi_k (.int 1) 35)) (zs_iconst (M := 178) (pc := 34) (zd_eq zk178 (by decide +kernel : decode cX7_bySalt 34 = .ok (.iconst 1, 1))) (by decide)) <|
  zcons (a := (35, zi_il 2 36)) (zs_il_n (M := 178) (pc := 35) (zd_eq zk178 (by decide +kernel : decode cX7_bySalt 35 = .ok (.iload_n 2, 1)))) <|
  zcons (a := (36, zi_bin (fun x y => x <<< (y &&& 31)) 37)) (zs_ishl (M := 178) (pc := 36) (zd_eq zk178 (by decide +kernel : decode cX7_bySalt 36 = .ok (.ishl, 1)))) <|
  zcons (a := (37, zi_b2 (fun x y => y ≤ x) 188 40)) (zs_icmpge (M := 178) (pc := 37) (zd_eq zk178 (by decide +kernel : decode cX7_bySalt 37 = .ok (.if_icmp .ge 151, 3))) (by decide)) <|
  zcons (a := (40, zi_k (.long 1) 41)) (zs_lconst (M := 178) (pc := 40) (zd_eq zk178 (by decide +kernel : decode cX7_bySalt 40 = .ok (.lconst 1, 1))) (by decide)) <|
  zcons (a := (41, zi_ls 10 43)) (zs_ls_w (M := 178) (pc := 41) (zd_eq zk178 (by decide +kernel : decode cX7_bySalt 41 = .ok (.lstore 10, 2))) (by decide +kernel) (by decide +kernel) (by decide +kernel)) <| znil
theorem zS178_1 : ∀ q ∈ zm_c178_1, zm_Snd 178 q.1 q.2 :=
  zcons (a := (43, zi_al 0 44)) (zs_al_n (M := 178) (pc := 43) (zd_eq zk178 (by decide +kernel : decode cX7_bySalt 43 = .ok (.aload_n 0, 1)))) <|
  zcons (a := (44, zi_k (.int 0) 45)) (zs_iconst (M := 178) (pc := 44) (zd_eq zk178 (by decide +kernel : decode cX7_bySalt 44 = .ok (.iconst 0, 1))) (by decide)) <|
  zcons (a := (45, zi_k (.int 124) 47)) (zs_bipush (M := 178) (pc := 45) (zd_eq zk178 (by decide +kernel : decode cX7_bySalt 45 = .ok (.bipush 124, 2))) (by decide)) <|
  zcons (a := (47, zi_cv 160 2 7 50 0)) (zs_cv (M := 178) (pc := 47) (M' := 160) (k := 2) (kd := 0) (ci := 7) (q := (RX7, TX7, 26)) (zd_eq zk178 (by decide +kernel : decode cX7_bySalt 47 = .ok (.invokevirtual 182, 3))) zWd160 (zl_m zo178 zy160 zw_1043) (zl_i zy160 zw_1045) (zl_e zy160 zw_42) (by decide) rfl (by rw [zo160])) <|
  zcons (a := (50, zi_k (.int 0) 51)) (zs_iconst (M := 178) (pc := 50) (zd_eq zk178 (by decide +kernel : decode cX7_bySalt 50 = .ok (.iconst 0, 1))) (by decide)) <|
  zcons (a := (51, zi_is 12 53)) (zs_is_w (M := 178) (pc := 51) (zd_eq zk178 (by decide +kernel : decode cX7_bySalt 51 = .ok (.istore 12, 2))) (by decide +kernel) (by decide +kernel)) <|
  zcons (a := (53, zi_il 12 55)) (zs_il_w (M := 178) (pc := 53) (zd_eq zk178 (by decide +kernel : decode cX7_bySalt 53 = .ok (.iload 12, 2)))) <|
  zcons (a := (55, zi_il 2 56)) (zs_il_n (M := 178) (pc := 55) (zd_eq zk178 (by decide +kernel : decode cX7_bySalt 55 = .ok (.iload_n 2, 1)))) <|
  zcons (a := (56, zi_b2 (fun x y => y ≤ x) 144 59)) (zs_icmpge (M := 178) (pc := 56) (zd_eq zk178 (by decide +kernel : decode cX7_bySalt 56 = .ok (.if_icmp .ge 88, 3))) (by decide)) <|
  zcons (a := (59, zi_il 9 61)) (zs_il_w (M := 178) (pc := 59) (zd_eq zk178 (by decide +kernel : decode cX7_bySalt 59 = .ok (.iload 9, 2)))) <|
  zcons (a := (61, zi_il 12 63)) (zs_il_w (M := 178) (pc := 61) (zd_eq zk178 (by decide +kernel : decode cX7_bySalt 61 = .ok (.iload 12, 2)))) <|
  zcons (a := (63, zi_bin (fun x y => x >>> (y &&& 31)) 64)) (zs_ishr (M := 178) (pc := 63) (zd_eq zk178 (by decide +kernel : decode cX7_bySalt 63 = .ok (.ishr, 1)))) <|
  zcons (a := (64, zi_k (.int 1) 65)) (zs_iconst (M := 178) (pc := 64) (zd_eq zk178 (by decide +kernel : decode cX7_bySalt 64 = .ok (.iconst 1, 1))) (by decide)) <|
  zcons (a := (65, zi_bin (· &&& ·) 66)) (zs_iand (M := 178) (pc := 65) (zd_eq zk178 (by decide +kernel : decode cX7_bySalt 65 = .ok (.iand, 1)))) <|
  zcons (a := (66, zi_k (.int 1) 67)) (zs_iconst (M := 178) (pc := 66) (zd_eq zk178 (by decide +kernel : decode cX7_bySalt 66 = .ok (.iconst 1, 1))) (by decide)) <|
  zcons (a := (67, zi_b2 (fun x y => ¬ x = y) 74 70)) (zs_icmpne (M := 178) (pc := 67) (zd_eq zk178 (by decide +kernel : decode cX7_bySalt 67 = .ok (.if_icmp .ne 7, 3))) (by decide)) <|
  zcons (a := (70, zi_k (.int 1) 71)) (zs_iconst (M := 178) (pc := 70) (zd_eq zk178 (by decide +kernel : decode cX7_bySalt 70 = .ok (.iconst 1, 1))) (by decide)) <|
  zcons (a := (71, zi_go 75)) (zs_goto (M := 178) (pc := 71) (zd_eq zk178 (by decide +kernel : decode cX7_bySalt 71 = .ok (.goto 4, 3))) (by decide)) <|
  zcons (a := (74, zi_k (.int 0) 75)) (zs_iconst (M := 178) (pc := 74) (zd_eq zk178 (by decide +kernel : decode cX7_bySalt 74 = .ok (.iconst 0, 1))) (by decide)) <|
  zcons (a := (75, zi_is 13 77)) (zs_is_w (M := 178) (pc := 75) (zd_eq zk178 (by decide +kernel : decode cX7_bySalt 75 = .ok (.istore 13, 2))) (by decide +kernel) (by decide +kernel)) <|
  zcons (a := (77, zi_al 0 78)) (zs_al_n (M := 178) (pc := 77) (zd_eq zk178 (by decide +kernel : decode cX7_bySalt 77 = .ok (.aload_n 0, 1)))) <|
  zcons (a := (78, zi_k (.int 124) 80)) (zs_bipush (M := 178) (pc := 78) (zd_eq zk178 (by decide +kernel : decode cX7_bySalt 78 = .ok (.bipush 124, 2))) (by decide)) <|
  zcons (a := (80, zi_cv 143 1 7 83 1)) (zs_cv (M := 178) (pc := 80) (M' := 143) (k := 1) (kd := 1) (ci := 7) (q := (RX7, TX7, 26)) (zd_eq zk178 (by decide +kernel : decode cX7_bySalt 80 = .ok (.invokevirtual 138, 3))) zWd143 (zl_m zo178 zy143 zw_933) (zl_i zy143 zw_935) (zl_e zy143 zw_27) (by decide) rfl (by rw [zo143])) <|
  zcons (a := (83, zi_is 14 85)) (zs_is_w (M := 178) (pc := 83) (zd_eq zk178 (by decide +kernel : decode cX7_bySalt 83 = .ok (.istore 14, 2))) (by decide +kernel) (by decide +kernel)) <| znil
theorem zS178_2 : ∀ q ∈ zm_c178_2, zm_Snd 178 q.1 q.2 :=
  zcons (a := (85, zi_ll 10 87)) (zs_ll_w (M := 178) (pc := 85) (zd_eq zk178 (by decide +kernel : decode cX7_bySalt 85 = .ok (.lload 10, 2)))) <|
  zcons (a := (87, zi_il 13 89)) (zs_il_w (M := 178) (pc := 87) (zd_eq zk178 (by decide +kernel : decode cX7_bySalt 87 = .ok (.iload 13, 2)))) <|
  zcons (a := (89, zi_b1 (fun x => x = 0) 97 92)) (zs_ifeq (M := 178) (pc := 89) (zd_eq zk178 (by decide +kernel : decode cX7_bySalt 89 = .ok (.ifCond .eq 8, 3))) (by decide)) <|
  zcons (a := (92, zi_il 1 93)) (zs_il_n (M := 178) (pc := 92) (zd_eq zk178 (by decide +kernel : decode cX7_bySalt 92 = .ok (.iload_n 1, 1)))) <|
  zcons (a := (93, zi_i2l 94)) (zs_i2l (M := 178) (pc := 93) (zd_eq zk178 (by decide +kernel : decode cX7_bySalt 93 = .ok (.i2l, 1)))) <|
  zcons (a := (94, zi_go 102)) (zs_goto (M := 178) (pc := 94) (zd_eq zk178 (by decide +kernel : decode cX7_bySalt 94 = .ok (.goto 8, 3))) (by decide)) <|
  zcons (a := (97, zi_k (.int 10) 99)) (zs_bipush (M := 178) (pc := 97) (zd_eq zk178 (by decide +kernel : decode cX7_bySalt 97 = .ok (.bipush 10, 2))) (by decide)) <|
  zcons (a := (99, zi_il 1 100)) (zs_il_n (M := 178) (pc := 99) (zd_eq zk178 (by decide +kernel : decode cX7_bySalt 99 = .ok (.iload_n 1, 1)))) <|
  zcons (a := (100, zi_bin (· - ·) 101)) (zs_isub (M := 178) (pc := 100) (zd_eq zk178 (by decide +kernel : decode cX7_bySalt 100 = .ok (.isub, 1)))) <|
  zcons (a := (101, zi_i2l 102)) (zs_i2l (M := 178) (pc := 101) (zd_eq zk178 (by decide +kernel : decode cX7_bySalt 101 = .ok (.i2l, 1)))) <|
  zcons (a := (102, zi_lbin (· * ·) 103)) (zs_lmul (M := 178) (pc := 102) (zd_eq zk178 (by decide +kernel : decode cX7_bySalt 102 = .ok (.lmul, 1)))) <|
  zcons (a := (103, zi_ls 10 105)) (zs_ls_w (M := 178) (pc := 103) (zd_eq zk178 (by decide +kernel : decode cX7_bySalt 103 = .ok (.lstore 10, 2))) (by decide +kernel) (by decide +kernel) (by decide +kernel)) <|
  zcons (a := (105, zi_il 13 107)) (zs_il_w (M := 178) (pc := 105) (zd_eq zk178 (by decide +kernel : decode cX7_bySalt 105 = .ok (.iload 13, 2)))) <|
  zcons (a := (107, zi_b1 (fun x => x = 0) 132 110)) (zs_ifeq (M := 178) (pc := 107) (zd_eq zk178 (by decide +kernel : decode cX7_bySalt 107 = .ok (.ifCond .eq 25, 3))) (by decide)) <|
  zcons (a := (110, zi_il 14 112)) (zs_il_w (M := 178) (pc := 110) (zd_eq zk178 (by decide +kernel : decode cX7_bySalt 110 = .ok (.iload 14, 2)))) <|
  zcons (a := (112, zi_k (.int (-4)) 114)) (zs_bipush (M := 178) (pc := 112) (zd_eq zk178 (by decide +kernel : decode cX7_bySalt 112 = .ok (.bipush (-4), 2))) (by decide)) <|
  zcons (a := (114, zi_b2 (fun x y => x = y) 132 117)) (zs_icmpeq (M := 178) (pc := 114) (zd_eq zk178 (by decide +kernel : decode cX7_bySalt 114 = .ok (.if_icmp .eq 18, 3))) (by decide)) <|
  zcons (a := (117, zi_al 0 118)) (zs_al_n (M := 178) (pc := 117) (zd_eq zk178 (by decide +kernel : decode cX7_bySalt 117 = .ok (.aload_n 0, 1)))) <|
  zcons (a := (118, zi_gr 7 0 121)) (zs_gr (M := 178) (pc := 118) (n := 0) (ci := 7) (k := 0) (C := RX7) (T := TX7) (N := 26) (zd_eq zk178 (by decide +kernel : decode cX7_bySalt 118 = .ok (.getfield 7, 3))) rfl (by decide) (by decide) zin_7 (zl_f zo178 zw_796)) <|
  zcons (a := (121, zi_k (.int 129) 124)) (zs_sipush (M := 178) (pc := 121) (zd_eq zk178 (by decide +kernel : decode cX7_bySalt 121 = .ok (.sipush 129, 3))) (by decide)) <|
  zcons (a := (124, zi_il 14 126)) (zs_il_w (M := 178) (pc := 124) (zd_eq zk178 (by decide +kernel : decode cX7_bySalt 124 = .ok (.iload 14, 2)))) <|
  zcons (a := (126, zi_bin (· + ·) 127)) (zs_iadd (M := 178) (pc := 126) (zd_eq zk178 (by decide +kernel : decode cX7_bySalt 126 = .ok (.iadd, 1)))) <|
  zcons (a := (127, zi_dup2 128)) (zs_dup2 (M := 178) (pc := 127) (zd_eq zk178 (by decide +kernel : decode cX7_bySalt 127 = .ok (.dup2, 1)))) <|
  zcons (a := (128, zi_ald 0 129)) (zs_iald (M := 178) (pc := 128) (zd_eq zk178 (by decide +kernel : decode cX7_bySalt 128 = .ok (.iaload, 1)))) <| znil
theorem zS178_3 : ∀ q ∈ zm_c178_3, zm_Snd 178 q.1 q.2 :=
  zcons (a := (129, zi_k (.int 2) 130)) (zs_iconst (M := 178) (pc := 129) (zd_eq zk178 (by decide +kernel : decode cX7_bySalt 129 = .ok (.iconst 2, 1))) (by decide)) <|
  zcons (a := (130, zi_div 131)) (zs_idiv (M := 178) (pc := 130) (zd_eq zk178 (by decide +kernel : decode cX7_bySalt 130 = .ok (.idiv, 1)))) <|
  zcons (a := (131, zi_ast 0 (fun x => x) 132)) (zs_iast (M := 178) (pc := 131) (zd_eq zk178 (by decide +kernel : decode cX7_bySalt 131 = .ok (.iastore, 1)))) <|
  zcons (a := (132, zi_al 0 133)) (zs_al_n (M := 178) (pc := 132) (zd_eq zk178 (by decide +kernel : decode cX7_bySalt 132 = .ok (.aload_n 0, 1)))) <|
  zcons (a := (133, zi_k (.int 124) 135)) (zs_bipush (M := 178) (pc := 133) (zd_eq zk178 (by decide +kernel : decode cX7_bySalt 133 = .ok (.bipush 124, 2))) (by decide)) <|
  zcons (a := (135, zi_cv 141 1 7 138 0)) (zs_cv (M := 178) (pc := 135) (M' := 141) (k := 1) (kd := 0) (ci := 7) (q := (RX7, TX7, 26)) (zd_eq zk178 (by decide +kernel : decode cX7_bySalt 135 = .ok (.invokevirtual 176, 3))) zWd141 (zl_m zo178 zy141 zw_1023) (zl_i zy141 zw_1025) (zl_e zy141 zw_39) (by decide) rfl (by rw [zo141])) <|
  zcons (a := (138, zi_inc 12 1 141)) (zs_inc (M := 178) (pc := 138) (zd_eq zk178 (by decide +kernel : decode cX7_bySalt 138 = .ok (.iinc 12 1, 3))) (by decide) (by decide +kernel) (by decide +kernel)) <|
  zcons (a := (141, zi_go 53)) (zs_goto (M := 178) (pc := 141) (zd_eq zk178 (by decide +kernel : decode cX7_bySalt 141 = .ok (.goto (-88), 3))) (by decide)) <|
  zcons (a := (144, zi_ll 5 146)) (zs_ll_w (M := 178) (pc := 144) (zd_eq zk178 (by decide +kernel : decode cX7_bySalt 144 = .ok (.lload 5, 2)))) <|
  zcons (a := (146, zi_ll 10 148)) (zs_ll_w (M := 178) (pc := 146) (zd_eq zk178 (by decide +kernel : decode cX7_bySalt 146 = .ok (.lload 10, 2)))) <|
  zcons (a := (148, zi_il 3 149)) (zs_il_n (M := 178) (pc := 148) (zd_eq zk178 (by decide +kernel : decode cX7_bySalt 148 = .ok (.iload_n 3, 1)))) <|
  zcons (a := (149, zi_b1 (fun x => x = 0) 161 152)) (zs_ifeq (M := 178) (pc := 149) (zd_eq zk178 (by decide +kernel : decode cX7_bySalt 149 = .ok (.ifCond .eq 12, 3))) (by decide)) <|
  zcons (a := (152, zi_al 0 153)) (zs_al_n (M := 178) (pc := 152) (zd_eq zk178 (by decide +kernel : decode cX7_bySalt 152 = .ok (.aload_n 0, 1)))) <|
  zcons (a := (153, zi_k (.int 124) 155)) (zs_bipush (M := 178) (pc := 153) (zd_eq zk178 (by decide +kernel : decode cX7_bySalt 153 = .ok (.bipush 124, 2))) (by decide)) <|
  zcons (a := (155, zi_cv 145 1 7 158 1)) (zs_cv (M := 178) (pc := 155) (M' := 145) (k := 1) (kd := 1) (ci := 7) (q := (RX7, TX7, 26)) (zd_eq zk178 (by decide +kernel : decode cX7_bySalt 155 = .ok (.invokevirtual 147, 3))) zWd145 (zl_m zo178 zy145 zw_945) (zl_i zy145 zw_947) (zl_e zy145 zw_30) (by decide) rfl (by rw [zo145])) <|
  zcons (a := (158, zi_go 177)) (zs_goto (M := 178) (pc := 158) (zd_eq zk178 (by decide +kernel : decode cX7_bySalt 158 = .ok (.goto 19, 3))) (by decide)) <|
  zcons (a := (161, zi_al 0 162)) (zs_al_n (M := 178) (pc := 161) (zd_eq zk178 (by decide +kernel : decode cX7_bySalt 161 = .ok (.aload_n 0, 1)))) <|
  zcons (a := (162, zi_k (.int 124) 164)) (zs_bipush (M := 178) (pc := 162) (zd_eq zk178 (by decide +kernel : decode cX7_bySalt 162 = .ok (.bipush 124, 2))) (by decide)) <|
  zcons (a := (164, zi_cv 143 1 7 167 1)) (zs_cv (M := 178) (pc := 164) (M' := 143) (k := 1) (kd := 1) (ci := 7) (q := (RX7, TX7, 26)) (zd_eq zk178 (by decide +kernel : decode cX7_bySalt 164 = .ok (.invokevirtual 138, 3))) zWd143 (zl_m zo178 zy143 zw_933) (zl_i zy143 zw_935) (zl_e zy143 zw_27) (by decide) rfl (by rw [zo143])) <|
  zcons (a := (167, zi_k (.int (-4)) 169)) (zs_bipush (M := 178) (pc := 167) (zd_eq zk178 (by decide +kernel : decode cX7_bySalt 167 = .ok (.bipush (-4), 2))) (by decide)) <|
  zcons (a := (169, zi_b2 (fun x y => x = y) 176 172)) (zs_icmpeq (M := 178) (pc := 169) (zd_eq zk178 (by decide +kernel : decode cX7_bySalt 169 = .ok (.if_icmp .eq 7, 3))) (by decide)) <|
  zcons (a := (172, zi_k (.int 1) 173)) (zs_iconst (M := 178) (pc := 172) (zd_eq zk178 (by decide +kernel : decode cX7_bySalt 172 = .ok (.iconst 1, 1))) (by decide)) <|
  zcons (a := (173, zi_go 177)) (zs_goto (M := 178) (pc := 173) (zd_eq zk178 (by decide +kernel : decode cX7_bySalt 173 = .ok (.goto 4, 3))) (by decide)) <|
  zcons (a := (176, zi_k (.int 0) 177)) (zs_iconst (M := 178) (pc := 176) (zd_eq zk178 (by decide +kernel : decode cX7_bySalt 176 = .ok (.iconst 0, 1))) (by decide)) <| znil
theorem zS178_4 : ∀ q ∈ zm_c178_4, zm_Snd 178 q.1 q.2 :=
  zcons (a := (177, zi_i2l 178)) (zs_i2l (M := 178) (pc := 177) (zd_eq zk178 (by decide +kernel : decode cX7_bySalt 177 = .ok (.i2l, 1)))) <|
  zcons (a := (178, zi_lbin (· * ·) 179)) (zs_lmul (M := 178) (pc := 178) (zd_eq zk178 (by decide +kernel : decode cX7_bySalt 178 = .ok (.lmul, 1)))) <|
  zcons (a := (179, zi_lbin (· + ·) 180)) (zs_ladd (M := 178) (pc := 179) (zd_eq zk178 (by decide +kernel : decode cX7_bySalt 179 = .ok (.ladd, 1)))) <|
  zcons (a := (180, zi_ls 5 182)) (zs_ls_w (M := 178) (pc := 180) (zd_eq zk178 (by decide +kernel : decode cX7_bySalt 180 = .ok (.lstore 5, 2))) (by decide +kernel) (by decide +kernel) (by decide +kernel)) <|
  zcons (a := (182, zi_inc 9 1 185)) (zs_inc (M := 178) (pc := 182) (zd_eq zk178 (by decide +kernel : decode cX7_bySalt 182 = .ok (.iinc 9 1, 3))) (by decide) (by decide +kernel) (by decide +kernel)) <|
  zcons (a := (185, zi_go 32)) (zs_goto (M := 178) (pc := 185) (zd_eq zk178 (by decide +kernel : decode cX7_bySalt 185 = .ok (.goto (-153), 3))) (by decide)) <|
  zcons (a := (188, zi_ll 5 190)) (zs_ll_w (M := 178) (pc := 188) (zd_eq zk178 (by decide +kernel : decode cX7_bySalt 188 = .ok (.lload 5, 2)))) <|
  zcons (a := (190, zi_ll 7 192)) (zs_ll_w (M := 178) (pc := 190) (zd_eq zk178 (by decide +kernel : decode cX7_bySalt 190 = .ok (.lload 7, 2)))) <|
  zcons (a := (192, zi_il 4 194)) (zs_il_w (M := 178) (pc := 192) (zd_eq zk178 (by decide +kernel : decode cX7_bySalt 192 = .ok (.iload 4, 2)))) <|
  zcons (a := (194, zi_cs 166 3 197 2)) (zs_cs (M := 178) (pc := 194) (M' := 166) (k := 3) (kd := 2) (zd_eq zk178 (by decide +kernel : decode cX7_bySalt 194 = .ok (.invokestatic 205, 3))) zWd166 (zl_m zo178 zy166 zw_1064) (zl_s zy166 zw_1065)) <|
  zcons (a := (197, zi_rl)) (zs_rl (M := 178) (pc := 197) (zd_eq zk178 (by decide +kernel : decode cX7_bySalt 197 = .ok (.lreturn, 1))) rfl) <| znil
theorem zS178 : ∀ pc, zm_Snd 178 pc (zm_lk2 zm_c178 pc) := zlk2 (zcons2 zS178_0 (zcons2 zS178_1 (zcons2 zS178_2 (zcons2 zS178_3 (zcons2 zS178_4 (znil2))))))
theorem zS179_0 : ∀ q ∈ zm_c179_0, zm_Snd 179 q.1 q.2 :=
  zcons (a := (0, zi_il 1 1)) (zs_il_n (M := 179) (pc := 0) (zd_eq zk179 (by decide +kernel : decode cX7_luck 0 = .ok (.iload_n 1, 1)))) <|
  zcons (a := (1, zi_i2l 2)) (zs_i2l (M := 179) (pc := 1) (zd_eq zk179 (by decide +kernel : decode cX7_luck 1 = .ok (.i2l, 1)))) <|
  zcons (a := (2, zi_k (.long 0) 3)) (zs_lconst (M := 179) (pc := 2) (zd_eq zk179 (by decide +kernel : decode cX7_luck 2 = .ok (.lconst 0, 1))) (by decide)) <|
  zcons (a := (3, zi_k (.long 10) 6)) (zs_ldc2 (M := 179) (pc := 3) (zd_eq zk179 (by decide +kernel : decode cX7_luck 3 = .ok (.ldc2_w 212, 3))) (zl_k2 zo179 zw_1111)) <|
  zcons (a := (6, zi_cs 123 3 9 1)) (zs_cs (M := 179) (pc := 6) (M' := 123) (k := 3) (kd := 1) (zd_eq zk179 (by decide +kernel : decode cX7_luck 6 = .ok (.invokestatic 49, 3))) zWd123 (zl_m zo179 zy123 zw_880) (zl_s zy123 zw_881)) <|
  zcons (a := (9, zi_b1 (fun x => x = 0) 45 12)) (zs_ifeq (M := 179) (pc := 9) (zd_eq zk179 (by decide +kernel : decode cX7_luck 9 = .ok (.ifCond .eq 36, 3))) (by decide)) <|
  zcons (a := (12, zi_il 2 13)) (zs_il_n (M := 179) (pc := 12) (zd_eq zk179 (by decide +kernel : decode cX7_luck 12 = .ok (.iload_n 2, 1)))) <|
  zcons (a := (13, zi_i2l 14)) (zs_i2l (M := 179) (pc := 13) (zd_eq zk179 (by decide +kernel : decode cX7_luck 13 = .ok (.i2l, 1)))) <|
  zcons (a := (14, zi_k (.long 0) 15)) (zs_lconst (M := 179) (pc := 14) (zd_eq zk179 (by decide +kernel : decode cX7_luck 14 = .ok (.lconst 0, 1))) (by decide)) <|
  zcons (a := (15, zi_k (.long 8) 18)) (zs_ldc2 (M := 179) (pc := 15) (zd_eq zk179 (by decide +kernel : decode cX7_luck 15 = .ok (.ldc2_w 162, 3))) (zl_k2 zo179 zw_991)) <|
  zcons (a := (18, zi_cs 123 3 21 1)) (zs_cs (M := 179) (pc := 18) (M' := 123) (k := 3) (kd := 1) (zd_eq zk179 (by decide +kernel : decode cX7_luck 18 = .ok (.invokestatic 49, 3))) zWd123 (zl_m zo179 zy123 zw_880) (zl_s zy123 zw_881)) <|
  zcons (a := (21, zi_b1 (fun x => x = 0) 45 24)) (zs_ifeq (M := 179) (pc := 21) (zd_eq zk179 (by decide +kernel : decode cX7_luck 21 = .ok (.ifCond .eq 24, 3))) (by decide)) <|
  zcons (a := (24, zi_il 3 25)) (zs_il_n (M := 179) (pc := 24) (zd_eq zk179 (by decide +kernel : decode cX7_luck 24 = .ok (.iload_n 3, 1)))) <|
  zcons (a := (25, zi_i2l 26)) (zs_i2l (M := 179) (pc := 25) (zd_eq zk179 (by decide +kernel : decode cX7_luck 25 = .ok (.i2l, 1)))) <|
  zcons (a := (26, zi_k (.long 0) 27)) (zs_lconst (M := 179) (pc := 26) (zd_eq zk179 (by decide +kernel : decode cX7_luck 26 = .ok (.lconst 0, 1))) (by decide)) <|
  zcons (a := (27, zi_k (.long 1) 28)) (zs_lconst (M := 179) (pc := 27) (zd_eq zk179 (by decide +kernel : decode cX7_luck 27 = .ok (.lconst 1, 1))) (by decide)) <|
  zcons (a := (28, zi_cs 123 3 31 1)) (zs_cs (M := 179) (pc := 28) (M' := 123) (k := 3) (kd := 1) (zd_eq zk179 (by decide +kernel : decode cX7_luck 28 = .ok (.invokestatic 49, 3))) zWd123 (zl_m zo179 zy123 zw_880) (zl_s zy123 zw_881)) <|
  zcons (a := (31, zi_b1 (fun x => x = 0) 45 34)) (zs_ifeq (M := 179) (pc := 31) (zd_eq zk179 (by decide +kernel : decode cX7_luck 31 = .ok (.ifCond .eq 14, 3))) (by decide)) <|
  zcons (a := (34, zi_al 0 35)) (zs_al_n (M := 179) (pc := 34) (zd_eq zk179 (by decide +kernel : decode cX7_luck 34 = .ok (.aload_n 0, 1)))) <|
  zcons (a := (35, zi_il 1 36)) (zs_il_n (M := 179) (pc := 35) (zd_eq zk179 (by decide +kernel : decode cX7_luck 35 = .ok (.iload_n 1, 1)))) <|
  zcons (a := (36, zi_il 2 37)) (zs_il_n (M := 179) (pc := 36) (zd_eq zk179 (by decide +kernel : decode cX7_luck 36 = .ok (.iload_n 2, 1)))) <|
  zcons (a := (37, zi_k (.int 0) 38)) (zs_iconst (M := 179) (pc := 37) (zd_eq zk179 (by decide +kernel : decode cX7_luck 37 = .ok (.iconst 0, 1))) (by decide)) <|
  zcons (a := (38, zi_il 3 39)) (zs_il_n (M := 179) (pc := 38) (zd_eq zk179 (by decide +kernel : decode cX7_luck 38 = .ok (.iload_n 3, 1)))) <|
  zcons (a := (39, zi_cv 178 4 7 42 2)) (zs_cv (M := 179) (pc := 39) (M' := 178) (k := 4) (kd := 2) (ci := 7) (q := (RX7, TX7, 26)) (zd_eq zk179 (by decide +kernel : decode cX7_luck 39 = .ok (.invokevirtual 214, 3))) zWd178 (zl_m zo179 zy178 zw_1112) (zl_i zy178 zw_1114) (zl_e zy178 zw_45) (by decide) rfl (by rw [zo178])) <| znil
theorem zS179_1 : ∀ q ∈ zm_c179_1, zm_Snd 179 q.1 q.2 :=
  zcons (a := (42, zi_go 48)) (zs_goto (M := 179) (pc := 42) (zd_eq zk179 (by decide +kernel : decode cX7_luck 42 = .ok (.goto 6, 3))) (by decide)) <|
  zcons (a := (45, zi_k (.long (-1)) 48)) (zs_ldc2 (M := 179) (pc := 45) (zd_eq zk179 (by decide +kernel : decode cX7_luck 45 = .ok (.ldc2_w 203, 3))) (zl_k2 zo179 zw_1063)) <|
  zcons (a := (48, zi_rl)) (zs_rl (M := 179) (pc := 48) (zd_eq zk179 (by decide +kernel : decode cX7_luck 48 = .ok (.lreturn, 1))) rfl) <| znil
theorem zS179 : ∀ pc, zm_Snd 179 pc (zm_lk2 zm_c179 pc) := zlk2 (zcons2 zS179_0 (zcons2 zS179_1 (znil2)))
theorem zS180_0 : ∀ q ∈ zm_c180_0, zm_Snd 180 q.1 q.2 :=
  zcons (a := (0, zi_il 1 1)) (zs_il_n (M := 180) (pc := 0) (zd_eq zk180 (by decide +kernel : decode cX7_mean 0 = .ok (.iload_n 1, 1)))) <|
  zcons (a := (1, zi_i2l 2)) (zs_i2l (M := 180) (pc := 1) (zd_eq zk180 (by decide +kernel : decode cX7_mean 1 = .ok (.i2l, 1)))) <|
  zcons (a := (2, zi_k (.long 0) 3)) (zs_lconst (M := 180) (pc := 2) (zd_eq zk180 (by decide +kernel : decode cX7_mean 2 = .ok (.lconst 0, 1))) (by decide)) <|
  zcons (a := (3, zi_k (.long 10) 6)) (zs_ldc2 (M := 180) (pc := 3) (zd_eq zk180 (by decide +kernel : decode cX7_mean 3 = .ok (.ldc2_w 212, 3))) (zl_k2 zo180 zw_1111)) <|
  zcons (a := (6, zi_cs 123 3 9 1)) (zs_cs (M := 180) (pc := 6) (M' := 123) (k := 3) (kd := 1) (zd_eq zk180 (by decide +kernel : decode cX7_mean 6 = .ok (.invokestatic 49, 3))) zWd123 (zl_m zo180 zy123 zw_880) (zl_s zy123 zw_881)) <|
  zcons (a := (9, zi_b1 (fun x => x = 0) 45 12)) (zs_ifeq (M := 180) (pc := 9) (zd_eq zk180 (by decide +kernel : decode cX7_mean 9 = .ok (.ifCond .eq 36, 3))) (by decide)) <|
  zcons (a := (12, zi_il 2 13)) (zs_il_n (M := 180) (pc := 12) (zd_eq zk180 (by decide +kernel : decode cX7_mean 12 = .ok (.iload_n 2, 1)))) <|
  zcons (a := (13, zi_i2l 14)) (zs_i2l (M := 180) (pc := 13) (zd_eq zk180 (by decide +kernel : decode cX7_mean 13 = .ok (.i2l, 1)))) <|
  zcons (a := (14, zi_k (.long 0) 15)) (zs_lconst (M := 180) (pc := 14) (zd_eq zk180 (by decide +kernel : decode cX7_mean 14 = .ok (.lconst 0, 1))) (by decide)) <|
  zcons (a := (15, zi_k (.long 8) 18)) (zs_ldc2 (M := 180) (pc := 15) (zd_eq zk180 (by decide +kernel : decode cX7_mean 15 = .ok (.ldc2_w 162, 3))) (zl_k2 zo180 zw_991)) <|
  zcons (a := (18, zi_cs 123 3 21 1)) (zs_cs (M := 180) (pc := 18) (M' := 123) (k := 3) (kd := 1) (zd_eq zk180 (by decide +kernel : decode cX7_mean 18 = .ok (.invokestatic 49, 3))) zWd123 (zl_m zo180 zy123 zw_880) (zl_s zy123 zw_881)) <|
  zcons (a := (21, zi_b1 (fun x => x = 0) 45 24)) (zs_ifeq (M := 180) (pc := 21) (zd_eq zk180 (by decide +kernel : decode cX7_mean 21 = .ok (.ifCond .eq 24, 3))) (by decide)) <|
  zcons (a := (24, zi_il 3 25)) (zs_il_n (M := 180) (pc := 24) (zd_eq zk180 (by decide +kernel : decode cX7_mean 24 = .ok (.iload_n 3, 1)))) <|
  zcons (a := (25, zi_i2l 26)) (zs_i2l (M := 180) (pc := 25) (zd_eq zk180 (by decide +kernel : decode cX7_mean 25 = .ok (.i2l, 1)))) <|
  zcons (a := (26, zi_k (.long 0) 27)) (zs_lconst (M := 180) (pc := 26) (zd_eq zk180 (by decide +kernel : decode cX7_mean 26 = .ok (.lconst 0, 1))) (by decide)) <|
  zcons (a := (27, zi_k (.long 1) 28)) (zs_lconst (M := 180) (pc := 27) (zd_eq zk180 (by decide +kernel : decode cX7_mean 27 = .ok (.lconst 1, 1))) (by decide)) <|
  zcons (a := (28, zi_cs 123 3 31 1)) (zs_cs (M := 180) (pc := 28) (M' := 123) (k := 3) (kd := 1) (zd_eq zk180 (by decide +kernel : decode cX7_mean 28 = .ok (.invokestatic 49, 3))) zWd123 (zl_m zo180 zy123 zw_880) (zl_s zy123 zw_881)) <|
  zcons (a := (31, zi_b1 (fun x => x = 0) 45 34)) (zs_ifeq (M := 180) (pc := 31) (zd_eq zk180 (by decide +kernel : decode cX7_mean 31 = .ok (.ifCond .eq 14, 3))) (by decide)) <|
  zcons (a := (34, zi_al 0 35)) (zs_al_n (M := 180) (pc := 34) (zd_eq zk180 (by decide +kernel : decode cX7_mean 34 = .ok (.aload_n 0, 1)))) <|
  zcons (a := (35, zi_il 1 36)) (zs_il_n (M := 180) (pc := 35) (zd_eq zk180 (by decide +kernel : decode cX7_mean 35 = .ok (.iload_n 1, 1)))) <|
  zcons (a := (36, zi_il 2 37)) (zs_il_n (M := 180) (pc := 36) (zd_eq zk180 (by decide +kernel : decode cX7_mean 36 = .ok (.iload_n 2, 1)))) <|
  zcons (a := (37, zi_k (.int 1) 38)) (zs_iconst (M := 180) (pc := 37) (zd_eq zk180 (by decide +kernel : decode cX7_mean 37 = .ok (.iconst 1, 1))) (by decide)) <|
  zcons (a := (38, zi_il 3 39)) (zs_il_n (M := 180) (pc := 38) (zd_eq zk180 (by decide +kernel : decode cX7_mean 38 = .ok (.iload_n 3, 1)))) <|
  zcons (a := (39, zi_cv 178 4 7 42 2)) (zs_cv (M := 180) (pc := 39) (M' := 178) (k := 4) (kd := 2) (ci := 7) (q := (RX7, TX7, 26)) (zd_eq zk180 (by decide +kernel : decode cX7_mean 39 = .ok (.invokevirtual 214, 3))) zWd178 (zl_m zo180 zy178 zw_1112) (zl_i zy178 zw_1114) (zl_e zy178 zw_45) (by decide) rfl (by rw [zo178])) <| znil
theorem zS180_1 : ∀ q ∈ zm_c180_1, zm_Snd 180 q.1 q.2 :=
  zcons (a := (42, zi_go 48)) (zs_goto (M := 180) (pc := 42) (zd_eq zk180 (by decide +kernel : decode cX7_mean 42 = .ok (.goto 6, 3))) (by decide)) <|
  zcons (a := (45, zi_k (.long (-1)) 48)) (zs_ldc2 (M := 180) (pc := 45) (zd_eq zk180 (by decide +kernel : decode cX7_mean 45 = .ok (.ldc2_w 203, 3))) (zl_k2 zo180 zw_1063)) <|
  zcons (a := (48, zi_rl)) (zs_rl (M := 180) (pc := 48) (zd_eq zk180 (by decide +kernel : decode cX7_mean 48 = .ok (.lreturn, 1))) rfl) <| znil
theorem zS180 : ∀ pc, zm_Snd 180 pc (zm_lk2 zm_c180 pc) := zlk2 (zcons2 zS180_0 (zcons2 zS180_1 (znil2)))
theorem zS181_0 : ∀ q ∈ zm_c181_0, zm_Snd 181 q.1 q.2 :=
  zcons (a := (0, zi_il 1 1)) (zs_il_n (M := 181) (pc := 0) (zd_eq zk181 (by decide +kernel : decode cX7_see 0 = .ok (.iload_n 1, 1)))) <|
  zcons (a := (1, zi_i2l 2)) (zs_i2l (M := 181) (pc := 1) (zd_eq zk181 (by decide +kernel : decode cX7_see 1 = .ok (.i2l, 1)))) <|
  zcons (a := (2, zi_k (.long 0) 3)) (zs_lconst (M := 181) (pc := 2) (zd_eq zk181 (by decide +kernel : decode cX7_see 2 = .ok (.lconst 0, 1))) (by decide)) <|
  zcons (a := (3, zi_k (.long 30) 6)) (zs_ldc2 (M := 181) (pc := 3) (zd_eq zk181 (by decide +kernel : decode cX7_see 3 = .ok (.ldc2_w 174, 3))) (zl_k2 zo181 zw_1022)) <|
  zcons (a := (6, zi_cs 123 3 9 1)) (zs_cs (M := 181) (pc := 6) (M' := 123) (k := 3) (kd := 1) (zd_eq zk181 (by decide +kernel : decode cX7_see 6 = .ok (.invokestatic 49, 3))) zWd123 (zl_m zo181 zy123 zw_880) (zl_s zy123 zw_881)) <|
  zcons (a := (9, zi_b1 (fun x => x = 0) 30 12)) (zs_ifeq (M := 181) (pc := 9) (zd_eq zk181 (by decide +kernel : decode cX7_see 9 = .ok (.ifCond .eq 21, 3))) (by decide)) <|
  zcons (a := (12, zi_il 2 13)) (zs_il_n (M := 181) (pc := 12) (zd_eq zk181 (by decide +kernel : decode cX7_see 12 = .ok (.iload_n 2, 1)))) <|
  zcons (a := (13, zi_i2l 14)) (zs_i2l (M := 181) (pc := 13) (zd_eq zk181 (by decide +kernel : decode cX7_see 13 = .ok (.i2l, 1)))) <|
  zcons (a := (14, zi_k (.long 0) 15)) (zs_lconst (M := 181) (pc := 14) (zd_eq zk181 (by decide +kernel : decode cX7_see 14 = .ok (.lconst 0, 1))) (by decide)) <|
  zcons (a := (15, zi_k (.long 3) 18)) (zs_ldc2 (M := 181) (pc := 15) (zd_eq zk181 (by decide +kernel : decode cX7_see 15 = .ok (.ldc2_w 164, 3))) (zl_k2 zo181 zw_1000)) <|
  zcons (a := (18, zi_cs 123 3 21 1)) (zs_cs (M := 181) (pc := 18) (M' := 123) (k := 3) (kd := 1) (zd_eq zk181 (by decide +kernel : decode cX7_see 18 = .ok (.invokestatic 49, 3))) zWd123 (zl_m zo181 zy123 zw_880) (zl_s zy123 zw_881)) <|
  zcons (a := (21, zi_b1 (fun x => ¬ x = 0) 32 24)) (zs_ifne (M := 181) (pc := 21) (zd_eq zk181 (by decide +kernel : decode cX7_see 21 = .ok (.ifCond .ne 11, 3))) (by decide)) <|
  zcons (a := (24, zi_il 2 25)) (zs_il_n (M := 181) (pc := 24) (zd_eq zk181 (by decide +kernel : decode cX7_see 24 = .ok (.iload_n 2, 1)))) <|
  zcons (a := (25, zi_k (.int 9) 27)) (zs_bipush (M := 181) (pc := 25) (zd_eq zk181 (by decide +kernel : decode cX7_see 25 = .ok (.bipush 9, 2))) (by decide)) <|
  zcons (a := (27, zi_b2 (fun x y => x = y) 32 30)) (zs_icmpeq (M := 181) (pc := 27) (zd_eq zk181 (by decide +kernel : decode cX7_see 27 = .ok (.if_icmp .eq 5, 3))) (by decide)) <|
  zcons (a := (30, zi_k (.int (-1)) 31)) (zs_iconst (M := 181) (pc := 30) (zd_eq zk181 (by decide +kernel : decode cX7_see 30 = .ok (.iconst (-1), 1))) (by decide)) <|
  zcons (a := (31, zi_ri)) (zs_ri (M := 181) (pc := 31) (zd_eq zk181 (by decide +kernel : decode cX7_see 31 = .ok (.ireturn, 1))) rfl) <|
  zcons (a := (32, zi_al 0 33)) (zs_al_n (M := 181) (pc := 32) (zd_eq zk181 (by decide +kernel : decode cX7_see 32 = .ok (.aload_n 0, 1)))) <|
  zcons (a := (33, zi_gi 7 19 36)) (zs_gi (M := 181) (pc := 33) (n := 0) (ci := 7) (k := 19) (C := RX7) (T := TX7) (N := 26) (zd_eq zk181 (by decide +kernel : decode cX7_see 33 = .ok (.getfield 118, 3))) rfl (by decide) (by decide) zin_7 (zl_f zo181 zw_815)) <|
  zcons (a := (36, zi_k (.int 6) 38)) (zs_bipush (M := 181) (pc := 36) (zd_eq zk181 (by decide +kernel : decode cX7_see 36 = .ok (.bipush 6, 2))) (by decide)) <|
  zcons (a := (38, zi_b2 (fun x y => ¬ x = y) 44 41)) (zs_icmpne (M := 181) (pc := 38) (zd_eq zk181 (by decide +kernel : decode cX7_see 38 = .ok (.if_icmp .ne 6, 3))) (by decide)) <|
  zcons (a := (41, zi_k (.int (-3)) 43)) (zs_bipush (M := 181) (pc := 41) (zd_eq zk181 (by decide +kernel : decode cX7_see 41 = .ok (.bipush (-3), 2))) (by decide)) <|
  zcons (a := (43, zi_ri)) (zs_ri (M := 181) (pc := 43) (zd_eq zk181 (by decide +kernel : decode cX7_see 43 = .ok (.ireturn, 1))) rfl) <|
  zcons (a := (44, zi_al 0 45)) (zs_al_n (M := 181) (pc := 44) (zd_eq zk181 (by decide +kernel : decode cX7_see 44 = .ok (.aload_n 0, 1)))) <| znil
theorem zS181_1 : ∀ q ∈ zm_c181_1, zm_Snd 181 q.1 q.2 :=
  zcons (a := (45, zi_gr 7 18 48)) (zs_gr (M := 181) (pc := 45) (n := 0) (ci := 7) (k := 18) (C := RX7) (T := TX7) (N := 26) (zd_eq zk181 (by decide +kernel : decode cX7_see 45 = .ok (.getfield 28, 3))) rfl (by decide) (by decide) zin_7 (zl_f zo181 zw_814)) <|
  zcons (a := (48, zi_k (.int 2) 49)) (zs_iconst (M := 181) (pc := 48) (zd_eq zk181 (by decide +kernel : decode cX7_see 48 = .ok (.iconst 2, 1))) (by decide)) <|
  zcons (a := (49, zi_al 0 50)) (zs_al_n (M := 181) (pc := 49) (zd_eq zk181 (by decide +kernel : decode cX7_see 49 = .ok (.aload_n 0, 1)))) <|
  zcons (a := (50, zi_gi 7 19 53)) (zs_gi (M := 181) (pc := 50) (n := 0) (ci := 7) (k := 19) (C := RX7) (T := TX7) (N := 26) (zd_eq zk181 (by decide +kernel : decode cX7_see 50 = .ok (.getfield 118, 3))) rfl (by decide) (by decide) zin_7 (zl_f zo181 zw_815)) <|
  zcons (a := (53, zi_bin (· * ·) 54)) (zs_imul (M := 181) (pc := 53) (zd_eq zk181 (by decide +kernel : decode cX7_see 53 = .ok (.imul, 1)))) <|
  zcons (a := (54, zi_il 1 55)) (zs_il_n (M := 181) (pc := 54) (zd_eq zk181 (by decide +kernel : decode cX7_see 54 = .ok (.iload_n 1, 1)))) <|
  zcons (a := (55, zi_ast 0 (fun x => x) 56)) (zs_iast (M := 181) (pc := 55) (zd_eq zk181 (by decide +kernel : decode cX7_see 55 = .ok (.iastore, 1)))) <|
  zcons (a := (56, zi_al 0 57)) (zs_al_n (M := 181) (pc := 56) (zd_eq zk181 (by decide +kernel : decode cX7_see 56 = .ok (.aload_n 0, 1)))) <|
  zcons (a := (57, zi_gr 7 18 60)) (zs_gr (M := 181) (pc := 57) (n := 0) (ci := 7) (k := 18) (C := RX7) (T := TX7) (N := 26) (zd_eq zk181 (by decide +kernel : decode cX7_see 57 = .ok (.getfield 28, 3))) rfl (by decide) (by decide) zin_7 (zl_f zo181 zw_814)) <|
  zcons (a := (60, zi_k (.int 2) 61)) (zs_iconst (M := 181) (pc := 60) (zd_eq zk181 (by decide +kernel : decode cX7_see 60 = .ok (.iconst 2, 1))) (by decide)) <|
  zcons (a := (61, zi_al 0 62)) (zs_al_n (M := 181) (pc := 61) (zd_eq zk181 (by decide +kernel : decode cX7_see 61 = .ok (.aload_n 0, 1)))) <|
  zcons (a := (62, zi_gi 7 19 65)) (zs_gi (M := 181) (pc := 62) (n := 0) (ci := 7) (k := 19) (C := RX7) (T := TX7) (N := 26) (zd_eq zk181 (by decide +kernel : decode cX7_see 62 = .ok (.getfield 118, 3))) rfl (by decide) (by decide) zin_7 (zl_f zo181 zw_815)) <|
  zcons (a := (65, zi_bin (· * ·) 66)) (zs_imul (M := 181) (pc := 65) (zd_eq zk181 (by decide +kernel : decode cX7_see 65 = .ok (.imul, 1)))) <|
  zcons (a := (66, zi_k (.int 1) 67)) (zs_iconst (M := 181) (pc := 66) (zd_eq zk181 (by decide +kernel : decode cX7_see 66 = .ok (.iconst 1, 1))) (by decide)) <|
  zcons (a := (67, zi_bin (· + ·) 68)) (zs_iadd (M := 181) (pc := 67) (zd_eq zk181 (by decide +kernel : decode cX7_see 67 = .ok (.iadd, 1)))) <|
  zcons (a := (68, zi_il 2 69)) (zs_il_n (M := 181) (pc := 68) (zd_eq zk181 (by decide +kernel : decode cX7_see 68 = .ok (.iload_n 2, 1)))) <|
  zcons (a := (69, zi_k (.int 9) 71)) (zs_bipush (M := 181) (pc := 69) (zd_eq zk181 (by decide +kernel : decode cX7_see 69 = .ok (.bipush 9, 2))) (by decide)) <|
  zcons (a := (71, zi_b2 (fun x y => ¬ x = y) 79 74)) (zs_icmpne (M := 181) (pc := 71) (zd_eq zk181 (by decide +kernel : decode cX7_see 71 = .ok (.if_icmp .ne 8, 3))) (by decide)) <|
  zcons (a := (74, zi_k (.int (-4)) 76)) (zs_bipush (M := 181) (pc := 74) (zd_eq zk181 (by decide +kernel : decode cX7_see 74 = .ok (.bipush (-4), 2))) (by decide)) <|
  zcons (a := (76, zi_go 80)) (zs_goto (M := 181) (pc := 76) (zd_eq zk181 (by decide +kernel : decode cX7_see 76 = .ok (.goto 4, 3))) (by decide)) <|
  zcons (a := (79, zi_il 2 80)) (zs_il_n (M := 181) (pc := 79) (zd_eq zk181 (by decide +kernel : decode cX7_see 79 = .ok (.iload_n 2, 1)))) <|
  zcons (a := (80, zi_ast 0 (fun x => x) 81)) (zs_iast (M := 181) (pc := 80) (zd_eq zk181 (by decide +kernel : decode cX7_see 80 = .ok (.iastore, 1)))) <|
  zcons (a := (81, zi_al 0 82)) (zs_al_n (M := 181) (pc := 81) (zd_eq zk181 (by decide +kernel : decode cX7_see 81 = .ok (.aload_n 0, 1)))) <|
  zcons (a := (82, zi_dup 83)) (zs_dup (M := 181) (pc := 82) (zd_eq zk181 (by decide +kernel : decode cX7_see 82 = .ok (.dup, 1)))) <| znil
theorem zS181_2 : ∀ q ∈ zm_c181_2, zm_Snd 181 q.1 q.2 :=
  zcons (a := (83, zi_gi 7 19 86)) (zs_gi (M := 181) (pc := 83) (n := 0) (ci := 7) (k := 19) (C := RX7) (T := TX7) (N := 26) (zd_eq zk181 (by decide +kernel : decode cX7_see 83 = .ok (.getfield 118, 3))) rfl (by decide) (by decide) zin_7 (zl_f zo181 zw_815)) <|
  zcons (a := (86, zi_k (.int 1) 87)) (zs_iconst (M := 181) (pc := 86) (zd_eq zk181 (by decide +kernel : decode cX7_see 86 = .ok (.iconst 1, 1))) (by decide)) <|
  zcons (a := (87, zi_bin (· + ·) 88)) (zs_iadd (M := 181) (pc := 87) (zd_eq zk181 (by decide +kernel : decode cX7_see 87 = .ok (.iadd, 1)))) <|
  zcons (a := (88, zi_pf 7 19 91)) (zs_pf (M := 181) (pc := 88) (ci := 7) (k := 19) (C := RX7) (T := TX7) (N := 26) (ty0 := tyX7) (zd_eq zk181 (by decide +kernel : decode cX7_see 88 = .ok (.putfield 118, 3))) rfl (by decide) (by decide) zin_7 (zl_f zo181 zw_815) tyX7_ok nmX7 rfl (tyX7_ok 19 (by decide))) <|
  zcons (a := (91, zi_al 0 92)) (zs_al_n (M := 181) (pc := 91) (zd_eq zk181 (by decide +kernel : decode cX7_see 91 = .ok (.aload_n 0, 1)))) <|
  zcons (a := (92, zi_gi 7 19 95)) (zs_gi (M := 181) (pc := 92) (n := 0) (ci := 7) (k := 19) (C := RX7) (T := TX7) (N := 26) (zd_eq zk181 (by decide +kernel : decode cX7_see 92 = .ok (.getfield 118, 3))) rfl (by decide) (by decide) zin_7 (zl_f zo181 zw_815)) <|
  zcons (a := (95, zi_ri)) (zs_ri (M := 181) (pc := 95) (zd_eq zk181 (by decide +kernel : decode cX7_see 95 = .ok (.ireturn, 1))) rfl) <| znil
theorem zS181 : ∀ pc, zm_Snd 181 pc (zm_lk2 zm_c181 pc) := zlk2 (zcons2 zS181_0 (zcons2 zS181_1 (zcons2 zS181_2 (znil2))))
theorem zS182_0 : ∀ q ∈ zm_c182_0, zm_Snd 182 q.1 q.2 :=
  zcons (a := (0, zi_il 1 1)) (zs_il_n (M := 182) (pc := 0) (zd_eq zk182 (by decide +kernel : decode cX7_forget 0 = .ok (.iload_n 1, 1)))) <|
  zcons (a := (1, zi_i2l 2)) (zs_i2l (M := 182) (pc := 1) (zd_eq zk182 (by decide +kernel : decode cX7_forget 1 = .ok (.i2l, 1)))) <|
  zcons (a := (2, zi_k (.long 0) 3)) (zs_lconst (M := 182) (pc := 2) (zd_eq zk182 (by decide +kernel : decode cX7_forget 2 = .ok (.lconst 0, 1))) (by decide)) <|
  zcons (a := (3, zi_al 0 4)) (zs_al_n (M := 182) (pc := 3) (zd_eq zk182 (by decide +kernel : decode cX7_forget 3 = .ok (.aload_n 0, 1)))) <|
  zcons (a := (4, zi_gi 7 19 7)) (zs_gi (M := 182) (pc := 4) (n := 0) (ci := 7) (k := 19) (C := RX7) (T := TX7) (N := 26) (zd_eq zk182 (by decide +kernel : decode cX7_forget 4 = .ok (.getfield 118, 3))) rfl (by decide) (by decide) zin_7 (zl_f zo182 zw_815)) <|
  zcons (a := (7, zi_i2l 8)) (zs_i2l (M := 182) (pc := 7) (zd_eq zk182 (by decide +kernel : decode cX7_forget 7 = .ok (.i2l, 1)))) <|
  zcons (a := (8, zi_cs 123 3 11 1)) (zs_cs (M := 182) (pc := 8) (M' := 123) (k := 3) (kd := 1) (zd_eq zk182 (by decide +kernel : decode cX7_forget 8 = .ok (.invokestatic 49, 3))) zWd123 (zl_m zo182 zy123 zw_880) (zl_s zy123 zw_881)) <|
  zcons (a := (11, zi_b1 (fun x => ¬ x = 0) 16 14)) (zs_ifne (M := 182) (pc := 11) (zd_eq zk182 (by decide +kernel : decode cX7_forget 11 = .ok (.ifCond .ne 5, 3))) (by decide)) <|
  zcons (a := (14, zi_k (.int (-1)) 15)) (zs_iconst (M := 182) (pc := 14) (zd_eq zk182 (by decide +kernel : decode cX7_forget 14 = .ok (.iconst (-1), 1))) (by decide)) <|
  zcons (a := (15, zi_ri)) (zs_ri (M := 182) (pc := 15) (zd_eq zk182 (by decide +kernel : decode cX7_forget 15 = .ok (.ireturn, 1))) rfl) <|
  zcons (a := (16, zi_al 0 17)) (zs_al_n (M := 182) (pc := 16) (zd_eq zk182 (by decide +kernel : decode cX7_forget 16 = .ok (.aload_n 0, 1)))) <|
  zcons (a := (17, zi_gi 7 19 20)) (zs_gi (M := 182) (pc := 17) (n := 0) (ci := 7) (k := 19) (C := RX7) (T := TX7) (N := 26) (zd_eq zk182 (by decide +kernel : decode cX7_forget 17 = .ok (.getfield 118, 3))) rfl (by decide) (by decide) zin_7 (zl_f zo182 zw_815)) <|
  zcons (a := (20, zi_is 2 21)) (zs_is_n (M := 182) (pc := 20) (zd_eq zk182 (by decide +kernel : decode cX7_forget 20 = .ok (.istore_n 2, 1))) (by decide +kernel) (by decide +kernel)) <|
  zcons (a := (21, zi_al 0 22)) (zs_al_n (M := 182) (pc := 21) (zd_eq zk182 (by decide +kernel : decode cX7_forget 21 = .ok (.aload_n 0, 1)))) <|
  zcons (a := (22, zi_il 1 23)) (zs_il_n (M := 182) (pc := 22) (zd_eq zk182 (by decide +kernel : decode cX7_forget 22 = .ok (.iload_n 1, 1)))) <|
  zcons (a := (23, zi_pf 7 19 26)) (zs_pf (M := 182) (pc := 23) (ci := 7) (k := 19) (C := RX7) (T := TX7) (N := 26) (ty0 := tyX7) (zd_eq zk182 (by decide +kernel : decode cX7_forget 23 = .ok (.putfield 118, 3))) rfl (by decide) (by decide) zin_7 (zl_f zo182 zw_815) tyX7_ok nmX7 rfl (tyX7_ok 19 (by decide))) <|
  zcons (a := (26, zi_il 2 27)) (zs_il_n (M := 182) (pc := 26) (zd_eq zk182 (by decide +kernel : decode cX7_forget 26 = .ok (.iload_n 2, 1)))) <|
  zcons (a := (27, zi_ri)) (zs_ri (M := 182) (pc := 27) (zd_eq zk182 (by decide +kernel : decode cX7_forget 27 = .ok (.ireturn, 1))) rfl) <| znil
theorem zS182 : ∀ pc, zm_Snd 182 pc (zm_lk2 zm_c182 pc) := zlk2 (zcons2 zS182_0 (znil2))
theorem zS183_0 : ∀ q ∈ zm_c183_0, zm_Snd 183 q.1 q.2 :=
  zcons (a := (0, zi_al 0 1)) (zs_al_n (M := 183) (pc := 0) (zd_eq zk183 (by decide +kernel : decode cX7_isAsSeen 0 = .ok (.aload_n 0, 1)))) <|
  zcons (a := (1, zi_k (.int 0) 2)) (zs_iconst (M := 183) (pc := 1) (zd_eq zk183 (by decide +kernel : decode cX7_isAsSeen 1 = .ok (.iconst 0, 1))) (by decide)) <|
  zcons (a := (2, zi_k (.int 124) 4)) (zs_bipush (M := 183) (pc := 2) (zd_eq zk183 (by decide +kernel : decode cX7_isAsSeen 2 = .ok (.bipush 124, 2))) (by decide)) <|
  zcons (a := (4, zi_cv 160 2 7 7 0)) (zs_cv (M := 183) (pc := 4) (M' := 160) (k := 2) (kd := 0) (ci := 7) (q := (RX7, TX7, 26)) (zd_eq zk183 (by decide +kernel : decode cX7_isAsSeen 4 = .ok (.invokevirtual 182, 3))) zWd160 (zl_m zo183 zy160 zw_1043) (zl_i zy160 zw_1045) (zl_e zy160 zw_42) (by decide) rfl (by rw [zo160])) <|
  zcons (a := (7, zi_k (.int 1) 8)) (zs_iconst (M := 183) (pc := 7) (zd_eq zk183 (by decide +kernel : decode cX7_isAsSeen 7 = .ok (.iconst 1, 1))) (by decide)) <|
  zcons (a := (8, zi_is 2 9)) (zs_is_n (M := 183) (pc := 8) (zd_eq zk183 (by decide +kernel : decode cX7_isAsSeen 8 = .ok (.istore_n 2, 1))) (by decide +kernel) (by decide +kernel)) <|
  zcons (a := (9, zi_k (.int 0) 10)) (zs_iconst (M := 183) (pc := 9) (zd_eq zk183 (by decide +kernel : decode cX7_isAsSeen 9 = .ok (.iconst 0, 1))) (by decide)) <|
  zcons (a := (10, zi_is 3 11)) (zs_is_n (M := 183) (pc := 10) (zd_eq zk183 (by decide +kernel : decode cX7_isAsSeen 10 = .ok (.istore_n 3, 1))) (by decide +kernel) (by decide +kernel)) <|
  zcons (a := (11, zi_il 3 12)) (zs_il_n (M := 183) (pc := 11) (zd_eq zk183 (by decide +kernel : decode cX7_isAsSeen 11 = .ok (.iload_n 3, 1)))) <|
  zcons (a := (12, zi_k (.int 30) 14)) (zs_bipush (M := 183) (pc := 12) (zd_eq zk183 (by decide +kernel : decode cX7_isAsSeen 12 = .ok (.bipush 30, 2))) (by decide)) <|
  zcons (a := (14, zi_b2 (fun x y => y < x) 107 17)) (zs_icmpgt (M := 183) (pc := 14) (zd_eq zk183 (by decide +kernel : decode cX7_isAsSeen 14 = .ok (.if_icmp .gt 93, 3))) (by decide)) <|
  zcons (a := (17, zi_al 0 18)) (zs_al_n (M := 183) (pc := 17) (zd_eq zk183 (by decide +kernel : decode cX7_isAsSeen 17 = .ok (.aload_n 0, 1)))) <|
  zcons (a := (18, zi_gr 7 20 21)) (zs_gr (M := 183) (pc := 18) (n := 0) (ci := 7) (k := 20) (C := RX7) (T := TX7) (N := 26) (zd_eq zk183 (by decide +kernel : decode cX7_isAsSeen 18 = .ok (.getfield 31, 3))) rfl (by decide) (by decide) zin_7 (zl_f zo183 zw_816)) <|
  zcons (a := (21, zi_k (.int 31) 23)) (zs_bipush (M := 183) (pc := 21) (zd_eq zk183 (by decide +kernel : decode cX7_isAsSeen 21 = .ok (.bipush 31, 2))) (by decide)) <|
  zcons (a := (23, zi_il 1 24)) (zs_il_n (M := 183) (pc := 23) (zd_eq zk183 (by decide +kernel : decode cX7_isAsSeen 23 = .ok (.iload_n 1, 1)))) <|
  zcons (a := (24, zi_bin (· * ·) 25)) (zs_imul (M := 183) (pc := 24) (zd_eq zk183 (by decide +kernel : decode cX7_isAsSeen 24 = .ok (.imul, 1)))) <|
  zcons (a := (25, zi_il 3 26)) (zs_il_n (M := 183) (pc := 25) (zd_eq zk183 (by decide +kernel : decode cX7_isAsSeen 25 = .ok (.iload_n 3, 1)))) <|
  zcons (a := (26, zi_bin (· + ·) 27)) (zs_iadd (M := 183) (pc := 26) (zd_eq zk183 (by decide +kernel : decode cX7_isAsSeen 26 = .ok (.iadd, 1)))) <|
  zcons (a := (27, zi_al 0 28)) (zs_al_n (M := 183) (pc := 27) (zd_eq zk183 (by decide +kernel : decode cX7_isAsSeen 27 = .ok (.aload_n 0, 1)))) <|
  zcons (a := (28, zi_k (.int 124) 30)) (zs_bipush (M := 183) (pc := 28) (zd_eq zk183 (by decide +kernel : decode cX7_isAsSeen 28 = .ok (.bipush 124, 2))) (by decide)) <|
  zcons (a := (30, zi_cv 144 1 7 33 1)) (zs_cv (M := 183) (pc := 30) (M' := 144) (k := 1) (kd := 1) (ci := 7) (q := (RX7, TX7, 26)) (zd_eq zk183 (by decide +kernel : decode cX7_isAsSeen 30 = .ok (.invokevirtual 141, 3))) zWd144 (zl_m zo183 zy144 zw_937) (zl_i zy144 zw_939) (zl_e zy144 zw_28) (by decide) rfl (by rw [zo144])) <|
  zcons (a := (33, zi_ast 0 (fun x => x) 34)) (zs_iast (M := 183) (pc := 33) (zd_eq zk183 (by decide +kernel : decode cX7_isAsSeen 33 = .ok (.iastore, 1)))) <|
  zcons (a := (34, zi_k (.int 0) 35)) (zs_iconst (M := 183) (pc := 34) (zd_eq zk183 (by decide +kernel : decode cX7_isAsSeen 34 = .ok (.iconst 0, 1))) (by decide)) <|
  zcons (a := (35, zi_is 4 37)) (zs_is_w (M := 183) (pc := 35) (zd_eq zk183 (by decide +kernel : decode cX7_isAsSeen 35 = .ok (.istore 4, 2))) (by decide +kernel) (by decide +kernel)) <| znil
theorem zS183_1 : ∀ q ∈ zm_c183_1, zm_Snd 183 q.1 q.2 :=
  zcons (a := (37, zi_il 4 39)) (zs_il_w (M := 183) (pc := 37) (zd_eq zk183 (by decide +kernel : decode cX7_isAsSeen 37 = .ok (.iload 4, 2)))) <|
  zcons (a := (39, zi_al 0 40)) (zs_al_n (M := 183) (pc := 39) (zd_eq zk183 (by decide +kernel : decode cX7_isAsSeen 39 = .ok (.aload_n 0, 1)))) <|
  zcons (a := (40, zi_gi 7 19 43)) (zs_gi (M := 183) (pc := 40) (n := 0) (ci := 7) (k := 19) (C := RX7) (T := TX7) (N := 26) (zd_eq zk183 (by decide +kernel : decode cX7_isAsSeen 40 = .ok (.getfield 118, 3))) rfl (by decide) (by decide) zin_7 (zl_f zo183 zw_815)) <|
  zcons (a := (43, zi_b2 (fun x y => y ≤ x) 95 46)) (zs_icmpge (M := 183) (pc := 43) (zd_eq zk183 (by decide +kernel : decode cX7_isAsSeen 43 = .ok (.if_icmp .ge 52, 3))) (by decide)) <|
  zcons (a := (46, zi_il 2 47)) (zs_il_n (M := 183) (pc := 46) (zd_eq zk183 (by decide +kernel : decode cX7_isAsSeen 46 = .ok (.iload_n 2, 1)))) <|
  zcons (a := (47, zi_b1 (fun x => x = 0) 87 50)) (zs_ifeq (M := 183) (pc := 47) (zd_eq zk183 (by decide +kernel : decode cX7_isAsSeen 47 = .ok (.ifCond .eq 40, 3))) (by decide)) <|
  zcons (a := (50, zi_al 0 51)) (zs_al_n (M := 183) (pc := 50) (zd_eq zk183 (by decide +kernel : decode cX7_isAsSeen 50 = .ok (.aload_n 0, 1)))) <|
  zcons (a := (51, zi_gr 7 18 54)) (zs_gr (M := 183) (pc := 51) (n := 0) (ci := 7) (k := 18) (C := RX7) (T := TX7) (N := 26) (zd_eq zk183 (by decide +kernel : decode cX7_isAsSeen 51 = .ok (.getfield 28, 3))) rfl (by decide) (by decide) zin_7 (zl_f zo183 zw_814)) <|
  zcons (a := (54, zi_k (.int 2) 55)) (zs_iconst (M := 183) (pc := 54) (zd_eq zk183 (by decide +kernel : decode cX7_isAsSeen 54 = .ok (.iconst 2, 1))) (by decide)) <|
  zcons (a := (55, zi_il 4 57)) (zs_il_w (M := 183) (pc := 55) (zd_eq zk183 (by decide +kernel : decode cX7_isAsSeen 55 = .ok (.iload 4, 2)))) <|
  zcons (a := (57, zi_bin (· * ·) 58)) (zs_imul (M := 183) (pc := 57) (zd_eq zk183 (by decide +kernel : decode cX7_isAsSeen 57 = .ok (.imul, 1)))) <|
  zcons (a := (58, zi_ald 0 59)) (zs_iald (M := 183) (pc := 58) (zd_eq zk183 (by decide +kernel : decode cX7_isAsSeen 58 = .ok (.iaload, 1)))) <|
  zcons (a := (59, zi_il 3 60)) (zs_il_n (M := 183) (pc := 59) (zd_eq zk183 (by decide +kernel : decode cX7_isAsSeen 59 = .ok (.iload_n 3, 1)))) <|
  zcons (a := (60, zi_b2 (fun x y => ¬ x = y) 83 63)) (zs_icmpne (M := 183) (pc := 60) (zd_eq zk183 (by decide +kernel : decode cX7_isAsSeen 60 = .ok (.if_icmp .ne 23, 3))) (by decide)) <|
  zcons (a := (63, zi_al 0 64)) (zs_al_n (M := 183) (pc := 63) (zd_eq zk183 (by decide +kernel : decode cX7_isAsSeen 63 = .ok (.aload_n 0, 1)))) <|
  zcons (a := (64, zi_k (.int 124) 66)) (zs_bipush (M := 183) (pc := 64) (zd_eq zk183 (by decide +kernel : decode cX7_isAsSeen 64 = .ok (.bipush 124, 2))) (by decide)) <|
  zcons (a := (66, zi_cv 144 1 7 69 1)) (zs_cv (M := 183) (pc := 66) (M' := 144) (k := 1) (kd := 1) (ci := 7) (q := (RX7, TX7, 26)) (zd_eq zk183 (by decide +kernel : decode cX7_isAsSeen 66 = .ok (.invokevirtual 141, 3))) zWd144 (zl_m zo183 zy144 zw_937) (zl_i zy144 zw_939) (zl_e zy144 zw_28) (by decide) rfl (by rw [zo144])) <|
  zcons (a := (69, zi_al 0 70)) (zs_al_n (M := 183) (pc := 69) (zd_eq zk183 (by decide +kernel : decode cX7_isAsSeen 69 = .ok (.aload_n 0, 1)))) <|
  zcons (a := (70, zi_gr 7 18 73)) (zs_gr (M := 183) (pc := 70) (n := 0) (ci := 7) (k := 18) (C := RX7) (T := TX7) (N := 26) (zd_eq zk183 (by decide +kernel : decode cX7_isAsSeen 70 = .ok (.getfield 28, 3))) rfl (by decide) (by decide) zin_7 (zl_f zo183 zw_814)) <|
  zcons (a := (73, zi_k (.int 2) 74)) (zs_iconst (M := 183) (pc := 73) (zd_eq zk183 (by decide +kernel : decode cX7_isAsSeen 73 = .ok (.iconst 2, 1))) (by decide)) <|
  zcons (a := (74, zi_il 4 76)) (zs_il_w (M := 183) (pc := 74) (zd_eq zk183 (by decide +kernel : decode cX7_isAsSeen 74 = .ok (.iload 4, 2)))) <|
  zcons (a := (76, zi_bin (· * ·) 77)) (zs_imul (M := 183) (pc := 76) (zd_eq zk183 (by decide +kernel : decode cX7_isAsSeen 76 = .ok (.imul, 1)))) <|
  zcons (a := (77, zi_k (.int 1) 78)) (zs_iconst (M := 183) (pc := 77) (zd_eq zk183 (by decide +kernel : decode cX7_isAsSeen 77 = .ok (.iconst 1, 1))) (by decide)) <|
  zcons (a := (78, zi_bin (· + ·) 79)) (zs_iadd (M := 183) (pc := 78) (zd_eq zk183 (by decide +kernel : decode cX7_isAsSeen 78 = .ok (.iadd, 1)))) <| znil
theorem zS183_2 : ∀ q ∈ zm_c183_2, zm_Snd 183 q.1 q.2 :=
  zcons (a := (79, zi_ald 0 80)) (zs_iald (M := 183) (pc := 79) (zd_eq zk183 (by decide +kernel : decode cX7_isAsSeen 79 = .ok (.iaload, 1)))) <|
  zcons (a := (80, zi_b2 (fun x y => ¬ x = y) 87 83)) (zs_icmpne (M := 183) (pc := 80) (zd_eq zk183 (by decide +kernel : decode cX7_isAsSeen 80 = .ok (.if_icmp .ne 7, 3))) (by decide)) <|
  zcons (a := (83, zi_k (.int 1) 84)) (zs_iconst (M := 183) (pc := 83) (zd_eq zk183 (by decide +kernel : decode cX7_isAsSeen 83 = .ok (.iconst 1, 1))) (by decide)) <|
  zcons (a := (84, zi_go 88)) (zs_goto (M := 183) (pc := 84) (zd_eq zk183 (by decide +kernel : decode cX7_isAsSeen 84 = .ok (.goto 4, 3))) (by decide)) <|
  zcons (a := (87, zi_k (.int 0) 88)) (zs_iconst (M := 183) (pc := 87) (zd_eq zk183 (by decide +kernel : decode cX7_isAsSeen 87 = .ok (.iconst 0, 1))) (by decide)) <|
  zcons (a := (88, zi_is 2 89)) (zs_is_n (M := 183) (pc := 88) (zd_eq zk183 (by decide +kernel : decode cX7_isAsSeen 88 = .ok (.istore_n 2, 1))) (by decide +kernel) (by decide +kernel)) <|
  zcons (a := (89, zi_inc 4 1 92)) (zs_inc (M := 183) (pc := 89) (zd_eq zk183 (by decide +kernel : decode cX7_isAsSeen 89 = .ok (.iinc 4 1, 3))) (by decide) (by decide +kernel) (by decide +kernel)) <|
  zcons (a := (92, zi_go 37)) (zs_goto (M := 183) (pc := 92) (zd_eq zk183 (by decide +kernel : decode cX7_isAsSeen 92 = .ok (.goto (-55), 3))) (by decide)) <|
  zcons (a := (95, zi_al 0 96)) (zs_al_n (M := 183) (pc := 95) (zd_eq zk183 (by decide +kernel : decode cX7_isAsSeen 95 = .ok (.aload_n 0, 1)))) <|
  zcons (a := (96, zi_k (.int 124) 98)) (zs_bipush (M := 183) (pc := 96) (zd_eq zk183 (by decide +kernel : decode cX7_isAsSeen 96 = .ok (.bipush 124, 2))) (by decide)) <|
  zcons (a := (98, zi_cv 141 1 7 101 0)) (zs_cv (M := 183) (pc := 98) (M' := 141) (k := 1) (kd := 0) (ci := 7) (q := (RX7, TX7, 26)) (zd_eq zk183 (by decide +kernel : decode cX7_isAsSeen 98 = .ok (.invokevirtual 176, 3))) zWd141 (zl_m zo183 zy141 zw_1023) (zl_i zy141 zw_1025) (zl_e zy141 zw_39) (by decide) rfl (by rw [zo141])) <|
  zcons (a := (101, zi_inc 3 1 104)) (zs_inc (M := 183) (pc := 101) (zd_eq zk183 (by decide +kernel : decode cX7_isAsSeen 101 = .ok (.iinc 3 1, 3))) (by decide) (by decide +kernel) (by decide +kernel)) <|
  zcons (a := (104, zi_go 11)) (zs_goto (M := 183) (pc := 104) (zd_eq zk183 (by decide +kernel : decode cX7_isAsSeen 104 = .ok (.goto (-93), 3))) (by decide)) <|
  zcons (a := (107, zi_il 2 108)) (zs_il_n (M := 183) (pc := 107) (zd_eq zk183 (by decide +kernel : decode cX7_isAsSeen 107 = .ok (.iload_n 2, 1)))) <|
  zcons (a := (108, zi_rz)) (zs_rz (M := 183) (pc := 108) (zd_eq zk183 (by decide +kernel : decode cX7_isAsSeen 108 = .ok (.ireturn, 1))) rfl) <| znil
theorem zS183 : ∀ pc, zm_Snd 183 pc (zm_lk2 zm_c183 pc) := zlk2 (zcons2 zS183_0 (zcons2 zS183_1 (zcons2 zS183_2 (znil2))))
theorem zS184_0 : ∀ q ∈ zm_c184_0, zm_Snd 184 q.1 q.2 :=
  zcons (a := (0, zi_al 0 1)) (zs_al_n (M := 184) (pc := 0) (zd_eq zk184 (by decide +kernel : decode cX7_kindsOf 0 = .ok (.aload_n 0, 1)))) <|
  zcons (a := (1, zi_gr 7 0 4)) (zs_gr (M := 184) (pc := 1) (n := 0) (ci := 7) (k := 0) (C := RX7) (T := TX7) (N := 26) (zd_eq zk184 (by decide +kernel : decode cX7_kindsOf 1 = .ok (.getfield 7, 3))) rfl (by decide) (by decide) zin_7 (zl_f zo184 zw_796)) <|
  zcons (a := (4, zi_il 1 5)) (zs_il_n (M := 184) (pc := 4) (zd_eq zk184 (by decide +kernel : decode cX7_kindsOf 4 = .ok (.iload_n 1, 1)))) <|
  zcons (a := (5, zi_ald 0 6)) (zs_iald (M := 184) (pc := 5) (zd_eq zk184 (by decide +kernel : decode cX7_kindsOf 5 = .ok (.iaload, 1)))) <|
  zcons (a := (6, zi_is 2 7)) (zs_is_n (M := 184) (pc := 6) (zd_eq zk184 (by decide +kernel : decode cX7_kindsOf 6 = .ok (.istore_n 2, 1))) (by decide +kernel) (by decide +kernel)) <|
  zcons (a := (7, zi_k (.int 0) 8)) (zs_iconst (M := 184) (pc := 7) (zd_eq zk184 (by decide +kernel : decode cX7_kindsOf 7 = .ok (.iconst 0, 1))) (by decide)) <|
  zcons (a := (8, zi_is 3 9)) (zs_is_n (M := 184) (pc := 8) (zd_eq zk184 (by decide +kernel : decode cX7_kindsOf 8 = .ok (.istore_n 3, 1))) (by decide +kernel) (by decide +kernel)) <|
  zcons (a := (9, zi_k (.int 0) 10)) (zs_iconst (M := 184) (pc := 9) (zd_eq zk184 (by decide +kernel : decode cX7_kindsOf 9 = .ok (.iconst 0, 1))) (by decide)) <|
  zcons (a := (10, zi_is 4 12)) (zs_is_w (M := 184) (pc := 10) (zd_eq zk184 (by decide +kernel : decode cX7_kindsOf 10 = .ok (.istore 4, 2))) (by decide +kernel) (by decide +kernel)) <|
  zcons (a := (12, zi_il 4 14)) (zs_il_w (M := 184) (pc := 12) (zd_eq zk184 (by decide +kernel : decode cX7_kindsOf 12 = .ok (.iload 4, 2)))) <|
  zcons (a := (14, zi_k (.int 4) 15)) (zs_iconst (M := 184) (pc := 14) (zd_eq zk184 (by decide +kernel : decode cX7_kindsOf 14 = .ok (.iconst 4, 1))) (by decide)) <|
  zcons (a := (15, zi_b2 (fun x y => y ≤ x) 52 18)) (zs_icmpge (M := 184) (pc := 15) (zd_eq zk184 (by decide +kernel : decode cX7_kindsOf 15 = .ok (.if_icmp .ge 37, 3))) (by decide)) <|
  zcons (a := (18, zi_al 0 19)) (zs_al_n (M := 184) (pc := 18) (zd_eq zk184 (by decide +kernel : decode cX7_kindsOf 18 = .ok (.aload_n 0, 1)))) <|
  zcons (a := (19, zi_gr 7 0 22)) (zs_gr (M := 184) (pc := 19) (n := 0) (ci := 7) (k := 0) (C := RX7) (T := TX7) (N := 26) (zd_eq zk184 (by decide +kernel : decode cX7_kindsOf 19 = .ok (.getfield 7, 3))) rfl (by decide) (by decide) zin_7 (zl_f zo184 zw_796)) <|
  zcons (a := (22, zi_il 1 23)) (zs_il_n (M := 184) (pc := 22) (zd_eq zk184 (by decide +kernel : decode cX7_kindsOf 22 = .ok (.iload_n 1, 1)))) <|
  zcons (a := (23, zi_il 4 25)) (zs_il_w (M := 184) (pc := 23) (zd_eq zk184 (by decide +kernel : decode cX7_kindsOf 23 = .ok (.iload 4, 2)))) <|
  zcons (a := (25, zi_ast 0 (fun x => x) 26)) (zs_iast (M := 184) (pc := 25) (zd_eq zk184 (by decide +kernel : decode cX7_kindsOf 25 = .ok (.iastore, 1)))) <|
  zcons (a := (26, zi_il 3 27)) (zs_il_n (M := 184) (pc := 26) (zd_eq zk184 (by decide +kernel : decode cX7_kindsOf 26 = .ok (.iload_n 3, 1)))) <|
  zcons (a := (27, zi_al 0 28)) (zs_al_n (M := 184) (pc := 27) (zd_eq zk184 (by decide +kernel : decode cX7_kindsOf 27 = .ok (.aload_n 0, 1)))) <|
  zcons (a := (28, zi_il 4 30)) (zs_il_w (M := 184) (pc := 28) (zd_eq zk184 (by decide +kernel : decode cX7_kindsOf 28 = .ok (.iload 4, 2)))) <|
  zcons (a := (30, zi_cv 183 1 7 33 1)) (zs_cv (M := 184) (pc := 30) (M' := 183) (k := 1) (kd := 1) (ci := 7) (q := (RX7, TX7, 26)) (zd_eq zk184 (by decide +kernel : decode cX7_kindsOf 30 = .ok (.invokevirtual 218, 3))) zWd183 (zl_m zo184 zy183 zw_1136) (zl_i zy183 zw_1138) (zl_e zy183 zw_47) (by decide) rfl (by rw [zo183])) <|
  zcons (a := (33, zi_b1 (fun x => x = 0) 43 36)) (zs_ifeq (M := 184) (pc := 33) (zd_eq zk184 (by decide +kernel : decode cX7_kindsOf 33 = .ok (.ifCond .eq 10, 3))) (by decide)) <|
  zcons (a := (36, zi_k (.int 1) 37)) (zs_iconst (M := 184) (pc := 36) (zd_eq zk184 (by decide +kernel : decode cX7_kindsOf 36 = .ok (.iconst 1, 1))) (by decide)) <|
  zcons (a := (37, zi_il 4 39)) (zs_il_w (M := 184) (pc := 37) (zd_eq zk184 (by decide +kernel : decode cX7_kindsOf 37 = .ok (.iload 4, 2)))) <| znil
theorem zS184_1 : ∀ q ∈ zm_c184_1, zm_Snd 184 q.1 q.2 :=
  zcons (a := (39, zi_bin (fun x y => x <<< (y &&& 31)) 40)) (zs_ishl (M := 184) (pc := 39) (zd_eq zk184 (by decide +kernel : decode cX7_kindsOf 39 = .ok (.ishl, 1)))) <|
  zcons (a := (40, zi_go 44)) (zs_goto (M := 184) (pc := 40) (zd_eq zk184 (by decide +kernel : decode cX7_kindsOf 40 = .ok (.goto 4, 3))) (by decide)) <|
  zcons (a := (43, zi_k (.int 0) 44)) (zs_iconst (M := 184) (pc := 43) (zd_eq zk184 (by decide +kernel : decode cX7_kindsOf 43 = .ok (.iconst 0, 1))) (by decide)) <|
  zcons (a := (44, zi_bin (· ||| ·) 45)) (zs_ior (M := 184) (pc := 44) (zd_eq zk184 (by decide +kernel : decode cX7_kindsOf 44 = .ok (.ior, 1)))) <|
  zcons (a := (45, zi_is 3 46)) (zs_is_n (M := 184) (pc := 45) (zd_eq zk184 (by decide +kernel : decode cX7_kindsOf 45 = .ok (.istore_n 3, 1))) (by decide +kernel) (by decide +kernel)) <|
  zcons (a := (46, zi_inc 4 1 49)) (zs_inc (M := 184) (pc := 46) (zd_eq zk184 (by decide +kernel : decode cX7_kindsOf 46 = .ok (.iinc 4 1, 3))) (by decide) (by decide +kernel) (by decide +kernel)) <|
  zcons (a := (49, zi_go 12)) (zs_goto (M := 184) (pc := 49) (zd_eq zk184 (by decide +kernel : decode cX7_kindsOf 49 = .ok (.goto (-37), 3))) (by decide)) <|
  zcons (a := (52, zi_al 0 53)) (zs_al_n (M := 184) (pc := 52) (zd_eq zk184 (by decide +kernel : decode cX7_kindsOf 52 = .ok (.aload_n 0, 1)))) <|
  zcons (a := (53, zi_gr 7 0 56)) (zs_gr (M := 184) (pc := 53) (n := 0) (ci := 7) (k := 0) (C := RX7) (T := TX7) (N := 26) (zd_eq zk184 (by decide +kernel : decode cX7_kindsOf 53 = .ok (.getfield 7, 3))) rfl (by decide) (by decide) zin_7 (zl_f zo184 zw_796)) <|
  zcons (a := (56, zi_il 1 57)) (zs_il_n (M := 184) (pc := 56) (zd_eq zk184 (by decide +kernel : decode cX7_kindsOf 56 = .ok (.iload_n 1, 1)))) <|
  zcons (a := (57, zi_il 2 58)) (zs_il_n (M := 184) (pc := 57) (zd_eq zk184 (by decide +kernel : decode cX7_kindsOf 57 = .ok (.iload_n 2, 1)))) <|
  zcons (a := (58, zi_ast 0 (fun x => x) 59)) (zs_iast (M := 184) (pc := 58) (zd_eq zk184 (by decide +kernel : decode cX7_kindsOf 58 = .ok (.iastore, 1)))) <|
  zcons (a := (59, zi_il 3 60)) (zs_il_n (M := 184) (pc := 59) (zd_eq zk184 (by decide +kernel : decode cX7_kindsOf 59 = .ok (.iload_n 3, 1)))) <|
  zcons (a := (60, zi_ri)) (zs_ri (M := 184) (pc := 60) (zd_eq zk184 (by decide +kernel : decode cX7_kindsOf 60 = .ok (.ireturn, 1))) rfl) <| znil
theorem zS184 : ∀ pc, zm_Snd 184 pc (zm_lk2 zm_c184 pc) := zlk2 (zcons2 zS184_0 (zcons2 zS184_1 (znil2)))
theorem zS185_0 : ∀ q ∈ zm_c185_0, zm_Snd 185 q.1 q.2 :=
  zcons (a := (0, zi_al 0 1)) (zs_al_n (M := 185) (pc := 0) (zd_eq zk185 (by decide +kernel : decode cX7_kinds 0 = .ok (.aload_n 0, 1)))) <|
  zcons (a := (1, zi_il 1 2)) (zs_il_n (M := 185) (pc := 1) (zd_eq zk185 (by decide +kernel : decode cX7_kinds 1 = .ok (.iload_n 1, 1)))) <|
  zcons (a := (2, zi_cv 135 1 7 5 1)) (zs_cv (M := 185) (pc := 2) (M' := 135) (k := 1) (kd := 1) (ci := 7) (q := (RX7, TX7, 26)) (zd_eq zk185 (by decide +kernel : decode cX7_kinds 2 = .ok (.invokevirtual 150, 3))) zWd135 (zl_m zo185 zy135 zw_953) (zl_i zy135 zw_955) (zl_e zy135 zw_31) (by decide) rfl (by rw [zo135])) <|
  zcons (a := (5, zi_b1 (fun x => x = 0) 16 8)) (zs_ifeq (M := 185) (pc := 5) (zd_eq zk185 (by decide +kernel : decode cX7_kinds 5 = .ok (.ifCond .eq 11, 3))) (by decide)) <|
  zcons (a := (8, zi_al 0 9)) (zs_al_n (M := 185) (pc := 8) (zd_eq zk185 (by decide +kernel : decode cX7_kinds 8 = .ok (.aload_n 0, 1)))) <|
  zcons (a := (9, zi_il 1 10)) (zs_il_n (M := 185) (pc := 9) (zd_eq zk185 (by decide +kernel : decode cX7_kinds 9 = .ok (.iload_n 1, 1)))) <|
  zcons (a := (10, zi_cv 184 1 7 13 1)) (zs_cv (M := 185) (pc := 10) (M' := 184) (k := 1) (kd := 1) (ci := 7) (q := (RX7, TX7, 26)) (zd_eq zk185 (by decide +kernel : decode cX7_kinds 10 = .ok (.invokevirtual 221, 3))) zWd184 (zl_m zo185 zy184 zw_1132) (zl_i zy184 zw_1134) (zl_e zy184 zw_46) (by decide) rfl (by rw [zo184])) <|
  zcons (a := (13, zi_go 17)) (zs_goto (M := 185) (pc := 13) (zd_eq zk185 (by decide +kernel : decode cX7_kinds 13 = .ok (.goto 4, 3))) (by decide)) <|
  zcons (a := (16, zi_k (.int (-1)) 17)) (zs_iconst (M := 185) (pc := 16) (zd_eq zk185 (by decide +kernel : decode cX7_kinds 16 = .ok (.iconst (-1), 1))) (by decide)) <|
  zcons (a := (17, zi_ri)) (zs_ri (M := 185) (pc := 17) (zd_eq zk185 (by decide +kernel : decode cX7_kinds 17 = .ok (.ireturn, 1))) rfl) <| znil
theorem zS185 : ∀ pc, zm_Snd 185 pc (zm_lk2 zm_c185 pc) := zlk2 (zcons2 zS185_0 (znil2))
theorem zS186_0 : ∀ q ∈ zm_c186_0, zm_Snd 186 q.1 q.2 :=
  zcons (a := (0, zi_al 0 1)) (zs_al_n (M := 186) (pc := 0) (zd_eq zk186 (by decide +kernel : decode cX7_sizes 0 = .ok (.aload_n 0, 1)))) <|
  zcons (a := (1, zi_il 1 2)) (zs_il_n (M := 186) (pc := 1) (zd_eq zk186 (by decide +kernel : decode cX7_sizes 1 = .ok (.iload_n 1, 1)))) <|
  zcons (a := (2, zi_cv 135 1 7 5 1)) (zs_cv (M := 186) (pc := 2) (M' := 135) (k := 1) (kd := 1) (ci := 7) (q := (RX7, TX7, 26)) (zd_eq zk186 (by decide +kernel : decode cX7_sizes 2 = .ok (.invokevirtual 150, 3))) zWd135 (zl_m zo186 zy135 zw_953) (zl_i zy135 zw_955) (zl_e zy135 zw_31) (by decide) rfl (by rw [zo135])) <|
  zcons (a := (5, zi_b1 (fun x => ¬ x = 0) 10 8)) (zs_ifne (M := 186) (pc := 5) (zd_eq zk186 (by decide +kernel : decode cX7_sizes 5 = .ok (.ifCond .ne 5, 3))) (by decide)) <|
  zcons (a := (8, zi_k (.int (-1)) 9)) (zs_iconst (M := 186) (pc := 8) (zd_eq zk186 (by decide +kernel : decode cX7_sizes 8 = .ok (.iconst (-1), 1))) (by decide)) <|
  zcons (a := (9, zi_ri)) (zs_ri (M := 186) (pc := 9) (zd_eq zk186 (by decide +kernel : decode cX7_sizes 9 = .ok (.ireturn, 1))) rfl) <|
  zcons (a := (10, zi_al 0 11)) (zs_al_n (M := 186) (pc := 10) (zd_eq zk186 (by decide +kernel : decode cX7_sizes 10 = .ok (.aload_n 0, 1)))) <|
  zcons (a := (11, zi_gr 7 0 14)) (zs_gr (M := 186) (pc := 11) (n := 0) (ci := 7) (k := 0) (C := RX7) (T := TX7) (N := 26) (zd_eq zk186 (by decide +kernel : decode cX7_sizes 11 = .ok (.getfield 7, 3))) rfl (by decide) (by decide) zin_7 (zl_f zo186 zw_796)) <|
  zcons (a := (14, zi_k (.int 5) 15)) (zs_iconst (M := 186) (pc := 14) (zd_eq zk186 (by decide +kernel : decode cX7_sizes 14 = .ok (.iconst 5, 1))) (by decide)) <|
  zcons (a := (15, zi_il 1 16)) (zs_il_n (M := 186) (pc := 15) (zd_eq zk186 (by decide +kernel : decode cX7_sizes 15 = .ok (.iload_n 1, 1)))) <|
  zcons (a := (16, zi_bin (· + ·) 17)) (zs_iadd (M := 186) (pc := 16) (zd_eq zk186 (by decide +kernel : decode cX7_sizes 16 = .ok (.iadd, 1)))) <|
  zcons (a := (17, zi_ald 0 18)) (zs_iald (M := 186) (pc := 17) (zd_eq zk186 (by decide +kernel : decode cX7_sizes 17 = .ok (.iaload, 1)))) <|
  zcons (a := (18, zi_is 2 19)) (zs_is_n (M := 186) (pc := 18) (zd_eq zk186 (by decide +kernel : decode cX7_sizes 18 = .ok (.istore_n 2, 1))) (by decide +kernel) (by decide +kernel)) <|
  zcons (a := (19, zi_k (.int 0) 20)) (zs_iconst (M := 186) (pc := 19) (zd_eq zk186 (by decide +kernel : decode cX7_sizes 19 = .ok (.iconst 0, 1))) (by decide)) <|
  zcons (a := (20, zi_is 3 21)) (zs_is_n (M := 186) (pc := 20) (zd_eq zk186 (by decide +kernel : decode cX7_sizes 20 = .ok (.istore_n 3, 1))) (by decide +kernel) (by decide +kernel)) <|
  zcons (a := (21, zi_k (.int 0) 22)) (zs_iconst (M := 186) (pc := 21) (zd_eq zk186 (by decide +kernel : decode cX7_sizes 21 = .ok (.iconst 0, 1))) (by decide)) <|
  zcons (a := (22, zi_is 4 24)) (zs_is_w (M := 186) (pc := 22) (zd_eq zk186 (by decide +kernel : decode cX7_sizes 22 = .ok (.istore 4, 2))) (by decide +kernel) (by decide +kernel)) <|
  zcons (a := (24, zi_il 4 26)) (zs_il_w (M := 186) (pc := 24) (zd_eq zk186 (by decide +kernel : decode cX7_sizes 24 = .ok (.iload 4, 2)))) <|
  zcons (a := (26, zi_k (.int 30) 28)) (zs_bipush (M := 186) (pc := 26) (zd_eq zk186 (by decide +kernel : decode cX7_sizes 26 = .ok (.bipush 30, 2))) (by decide)) <|
  zcons (a := (28, zi_b2 (fun x y => y < x) 66 31)) (zs_icmpgt (M := 186) (pc := 28) (zd_eq zk186 (by decide +kernel : decode cX7_sizes 28 = .ok (.if_icmp .gt 38, 3))) (by decide)) <|
  zcons (a := (31, zi_al 0 32)) (zs_al_n (M := 186) (pc := 31) (zd_eq zk186 (by decide +kernel : decode cX7_sizes 31 = .ok (.aload_n 0, 1)))) <|
  zcons (a := (32, zi_gr 7 0 35)) (zs_gr (M := 186) (pc := 32) (n := 0) (ci := 7) (k := 0) (C := RX7) (T := TX7) (N := 26) (zd_eq zk186 (by decide +kernel : decode cX7_sizes 32 = .ok (.getfield 7, 3))) rfl (by decide) (by decide) zin_7 (zl_f zo186 zw_796)) <|
  zcons (a := (35, zi_k (.int 5) 36)) (zs_iconst (M := 186) (pc := 35) (zd_eq zk186 (by decide +kernel : decode cX7_sizes 35 = .ok (.iconst 5, 1))) (by decide)) <|
  zcons (a := (36, zi_il 1 37)) (zs_il_n (M := 186) (pc := 36) (zd_eq zk186 (by decide +kernel : decode cX7_sizes 36 = .ok (.iload_n 1, 1)))) <| znil
theorem zS186_1 : ∀ q ∈ zm_c186_1, zm_Snd 186 q.1 q.2 :=
  zcons (a := (37, zi_bin (· + ·) 38)) (zs_iadd (M := 186) (pc := 37) (zd_eq zk186 (by decide +kernel : decode cX7_sizes 37 = .ok (.iadd, 1)))) <|
  zcons (a := (38, zi_il 4 40)) (zs_il_w (M := 186) (pc := 38) (zd_eq zk186 (by decide +kernel : decode cX7_sizes 38 = .ok (.iload 4, 2)))) <|
  zcons (a := (40, zi_ast 0 (fun x => x) 41)) (zs_iast (M := 186) (pc := 40) (zd_eq zk186 (by decide +kernel : decode cX7_sizes 40 = .ok (.iastore, 1)))) <|
  zcons (a := (41, zi_il 3 42)) (zs_il_n (M := 186) (pc := 41) (zd_eq zk186 (by decide +kernel : decode cX7_sizes 41 = .ok (.iload_n 3, 1)))) <|
  zcons (a := (42, zi_al 0 43)) (zs_al_n (M := 186) (pc := 42) (zd_eq zk186 (by decide +kernel : decode cX7_sizes 42 = .ok (.aload_n 0, 1)))) <|
  zcons (a := (43, zi_k (.int 0) 44)) (zs_iconst (M := 186) (pc := 43) (zd_eq zk186 (by decide +kernel : decode cX7_sizes 43 = .ok (.iconst 0, 1))) (by decide)) <|
  zcons (a := (44, zi_cv 183 1 7 47 1)) (zs_cv (M := 186) (pc := 44) (M' := 183) (k := 1) (kd := 1) (ci := 7) (q := (RX7, TX7, 26)) (zd_eq zk186 (by decide +kernel : decode cX7_sizes 44 = .ok (.invokevirtual 218, 3))) zWd183 (zl_m zo186 zy183 zw_1136) (zl_i zy183 zw_1138) (zl_e zy183 zw_47) (by decide) rfl (by rw [zo183])) <|
  zcons (a := (47, zi_b1 (fun x => x = 0) 57 50)) (zs_ifeq (M := 186) (pc := 47) (zd_eq zk186 (by decide +kernel : decode cX7_sizes 47 = .ok (.ifCond .eq 10, 3))) (by decide)) <|
  zcons (a := (50, zi_k (.int 1) 51)) (zs_iconst (M := 186) (pc := 50) (zd_eq zk186 (by decide +kernel : decode cX7_sizes 50 = .ok (.iconst 1, 1))) (by decide)) <|
  zcons (a := (51, zi_il 4 53)) (zs_il_w (M := 186) (pc := 51) (zd_eq zk186 (by decide +kernel : decode cX7_sizes 51 = .ok (.iload 4, 2)))) <|
  zcons (a := (53, zi_bin (fun x y => x <<< (y &&& 31)) 54)) (zs_ishl (M := 186) (pc := 53) (zd_eq zk186 (by decide +kernel : decode cX7_sizes 53 = .ok (.ishl, 1)))) <|
  zcons (a := (54, zi_go 58)) (zs_goto (M := 186) (pc := 54) (zd_eq zk186 (by decide +kernel : decode cX7_sizes 54 = .ok (.goto 4, 3))) (by decide)) <|
  zcons (a := (57, zi_k (.int 0) 58)) (zs_iconst (M := 186) (pc := 57) (zd_eq zk186 (by decide +kernel : decode cX7_sizes 57 = .ok (.iconst 0, 1))) (by decide)) <|
  zcons (a := (58, zi_bin (· ||| ·) 59)) (zs_ior (M := 186) (pc := 58) (zd_eq zk186 (by decide +kernel : decode cX7_sizes 58 = .ok (.ior, 1)))) <|
  zcons (a := (59, zi_is 3 60)) (zs_is_n (M := 186) (pc := 59) (zd_eq zk186 (by decide +kernel : decode cX7_sizes 59 = .ok (.istore_n 3, 1))) (by decide +kernel) (by decide +kernel)) <|
  zcons (a := (60, zi_inc 4 1 63)) (zs_inc (M := 186) (pc := 60) (zd_eq zk186 (by decide +kernel : decode cX7_sizes 60 = .ok (.iinc 4 1, 3))) (by decide) (by decide +kernel) (by decide +kernel)) <|
  zcons (a := (63, zi_go 24)) (zs_goto (M := 186) (pc := 63) (zd_eq zk186 (by decide +kernel : decode cX7_sizes 63 = .ok (.goto (-39), 3))) (by decide)) <|
  zcons (a := (66, zi_al 0 67)) (zs_al_n (M := 186) (pc := 66) (zd_eq zk186 (by decide +kernel : decode cX7_sizes 66 = .ok (.aload_n 0, 1)))) <|
  zcons (a := (67, zi_gr 7 0 70)) (zs_gr (M := 186) (pc := 67) (n := 0) (ci := 7) (k := 0) (C := RX7) (T := TX7) (N := 26) (zd_eq zk186 (by decide +kernel : decode cX7_sizes 67 = .ok (.getfield 7, 3))) rfl (by decide) (by decide) zin_7 (zl_f zo186 zw_796)) <|
  zcons (a := (70, zi_k (.int 5) 71)) (zs_iconst (M := 186) (pc := 70) (zd_eq zk186 (by decide +kernel : decode cX7_sizes 70 = .ok (.iconst 5, 1))) (by decide)) <|
  zcons (a := (71, zi_il 1 72)) (zs_il_n (M := 186) (pc := 71) (zd_eq zk186 (by decide +kernel : decode cX7_sizes 71 = .ok (.iload_n 1, 1)))) <|
  zcons (a := (72, zi_bin (· + ·) 73)) (zs_iadd (M := 186) (pc := 72) (zd_eq zk186 (by decide +kernel : decode cX7_sizes 72 = .ok (.iadd, 1)))) <|
  zcons (a := (73, zi_il 2 74)) (zs_il_n (M := 186) (pc := 73) (zd_eq zk186 (by decide +kernel : decode cX7_sizes 73 = .ok (.iload_n 2, 1)))) <|
  zcons (a := (74, zi_ast 0 (fun x => x) 75)) (zs_iast (M := 186) (pc := 74) (zd_eq zk186 (by decide +kernel : decode cX7_sizes 74 = .ok (.iastore, 1)))) <| znil
theorem zS186_2 : ∀ q ∈ zm_c186_2, zm_Snd 186 q.1 q.2 :=
  zcons (a := (75, zi_il 3 76)) (zs_il_n (M := 186) (pc := 75) (zd_eq zk186 (by decide +kernel : decode cX7_sizes 75 = .ok (.iload_n 3, 1)))) <|
  zcons (a := (76, zi_ri)) (zs_ri (M := 186) (pc := 76) (zd_eq zk186 (by decide +kernel : decode cX7_sizes 76 = .ok (.ireturn, 1))) rfl) <| znil
theorem zS186 : ∀ pc, zm_Snd 186 pc (zm_lk2 zm_c186 pc) := zlk2 (zcons2 zS186_0 (zcons2 zS186_1 (zcons2 zS186_2 (znil2))))
theorem zS187_0 : ∀ q ∈ zm_c187_0, zm_Snd 187 q.1 q.2 :=
  zcons (a := (0, zi_al 0 1)) (zs_al_n (M := 187) (pc := 0) (zd_eq zk187 (by decide +kernel : decode cX7_leans 0 = .ok (.aload_n 0, 1)))) <|
  zcons (a := (1, zi_il 1 2)) (zs_il_n (M := 187) (pc := 1) (zd_eq zk187 (by decide +kernel : decode cX7_leans 1 = .ok (.iload_n 1, 1)))) <|
  zcons (a := (2, zi_cv 135 1 7 5 1)) (zs_cv (M := 187) (pc := 2) (M' := 135) (k := 1) (kd := 1) (ci := 7) (q := (RX7, TX7, 26)) (zd_eq zk187 (by decide +kernel : decode cX7_leans 2 = .ok (.invokevirtual 150, 3))) zWd135 (zl_m zo187 zy135 zw_953) (zl_i zy135 zw_955) (zl_e zy135 zw_31) (by decide) rfl (by rw [zo135])) <|
  zcons (a := (5, zi_b1 (fun x => x = 0) 18 8)) (zs_ifeq (M := 187) (pc := 5) (zd_eq zk187 (by decide +kernel : decode cX7_leans 5 = .ok (.ifCond .eq 13, 3))) (by decide)) <|
  zcons (a := (8, zi_il 2 9)) (zs_il_n (M := 187) (pc := 8) (zd_eq zk187 (by decide +kernel : decode cX7_leans 8 = .ok (.iload_n 2, 1)))) <|
  zcons (a := (9, zi_i2l 10)) (zs_i2l (M := 187) (pc := 9) (zd_eq zk187 (by decide +kernel : decode cX7_leans 9 = .ok (.i2l, 1)))) <|
  zcons (a := (10, zi_k (.long 0) 11)) (zs_lconst (M := 187) (pc := 10) (zd_eq zk187 (by decide +kernel : decode cX7_leans 10 = .ok (.lconst 0, 1))) (by decide)) <|
  zcons (a := (11, zi_k (.long 1) 12)) (zs_lconst (M := 187) (pc := 11) (zd_eq zk187 (by decide +kernel : decode cX7_leans 11 = .ok (.lconst 1, 1))) (by decide)) <|
  zcons (a := (12, zi_cs 123 3 15 1)) (zs_cs (M := 187) (pc := 12) (M' := 123) (k := 3) (kd := 1) (zd_eq zk187 (by decide +kernel : decode cX7_leans 12 = .ok (.invokestatic 49, 3))) zWd123 (zl_m zo187 zy123 zw_880) (zl_s zy123 zw_881)) <|
  zcons (a := (15, zi_b1 (fun x => ¬ x = 0) 20 18)) (zs_ifne (M := 187) (pc := 15) (zd_eq zk187 (by decide +kernel : decode cX7_leans 15 = .ok (.ifCond .ne 5, 3))) (by decide)) <|
  zcons (a := (18, zi_k (.int (-1)) 19)) (zs_iconst (M := 187) (pc := 18) (zd_eq zk187 (by decide +kernel : decode cX7_leans 18 = .ok (.iconst (-1), 1))) (by decide)) <|
  zcons (a := (19, zi_ri)) (zs_ri (M := 187) (pc := 19) (zd_eq zk187 (by decide +kernel : decode cX7_leans 19 = .ok (.ireturn, 1))) rfl) <|
  zcons (a := (20, zi_al 0 21)) (zs_al_n (M := 187) (pc := 20) (zd_eq zk187 (by decide +kernel : decode cX7_leans 20 = .ok (.aload_n 0, 1)))) <|
  zcons (a := (21, zi_gr 7 0 24)) (zs_gr (M := 187) (pc := 21) (n := 0) (ci := 7) (k := 0) (C := RX7) (T := TX7) (N := 26) (zd_eq zk187 (by decide +kernel : decode cX7_leans 21 = .ok (.getfield 7, 3))) rfl (by decide) (by decide) zin_7 (zl_f zo187 zw_796)) <|
  zcons (a := (24, zi_k (.int 10) 26)) (zs_bipush (M := 187) (pc := 24) (zd_eq zk187 (by decide +kernel : decode cX7_leans 24 = .ok (.bipush 10, 2))) (by decide)) <|
  zcons (a := (26, zi_il 1 27)) (zs_il_n (M := 187) (pc := 26) (zd_eq zk187 (by decide +kernel : decode cX7_leans 26 = .ok (.iload_n 1, 1)))) <|
  zcons (a := (27, zi_bin (· + ·) 28)) (zs_iadd (M := 187) (pc := 27) (zd_eq zk187 (by decide +kernel : decode cX7_leans 27 = .ok (.iadd, 1)))) <|
  zcons (a := (28, zi_ald 0 29)) (zs_iald (M := 187) (pc := 28) (zd_eq zk187 (by decide +kernel : decode cX7_leans 28 = .ok (.iaload, 1)))) <|
  zcons (a := (29, zi_is 3 30)) (zs_is_n (M := 187) (pc := 29) (zd_eq zk187 (by decide +kernel : decode cX7_leans 29 = .ok (.istore_n 3, 1))) (by decide +kernel) (by decide +kernel)) <|
  zcons (a := (30, zi_k (.int 0) 31)) (zs_iconst (M := 187) (pc := 30) (zd_eq zk187 (by decide +kernel : decode cX7_leans 30 = .ok (.iconst 0, 1))) (by decide)) <|
  zcons (a := (31, zi_is 4 33)) (zs_is_w (M := 187) (pc := 31) (zd_eq zk187 (by decide +kernel : decode cX7_leans 31 = .ok (.istore 4, 2))) (by decide +kernel) (by decide +kernel)) <|
  zcons (a := (33, zi_k (.int (-4)) 35)) (zs_bipush (M := 187) (pc := 33) (zd_eq zk187 (by decide +kernel : decode cX7_leans 33 = .ok (.bipush (-4), 2))) (by decide)) <|
  zcons (a := (35, zi_is 5 37)) (zs_is_w (M := 187) (pc := 35) (zd_eq zk187 (by decide +kernel : decode cX7_leans 35 = .ok (.istore 5, 2))) (by decide +kernel) (by decide +kernel)) <|
  zcons (a := (37, zi_k (.int 0) 38)) (zs_iconst (M := 187) (pc := 37) (zd_eq zk187 (by decide +kernel : decode cX7_leans 37 = .ok (.iconst 0, 1))) (by decide)) <| znil
theorem zS187_1 : ∀ q ∈ zm_c187_1, zm_Snd 187 q.1 q.2 :=
  zcons (a := (38, zi_is 6 40)) (zs_is_w (M := 187) (pc := 38) (zd_eq zk187 (by decide +kernel : decode cX7_leans 38 = .ok (.istore 6, 2))) (by decide +kernel) (by decide +kernel)) <|
  zcons (a := (40, zi_il 6 42)) (zs_il_w (M := 187) (pc := 40) (zd_eq zk187 (by decide +kernel : decode cX7_leans 40 = .ok (.iload 6, 2)))) <|
  zcons (a := (42, zi_k (.int 40) 44)) (zs_bipush (M := 187) (pc := 42) (zd_eq zk187 (by decide +kernel : decode cX7_leans 42 = .ok (.bipush 40, 2))) (by decide)) <|
  zcons (a := (44, zi_b2 (fun x y => y < x) 108 47)) (zs_icmpgt (M := 187) (pc := 44) (zd_eq zk187 (by decide +kernel : decode cX7_leans 44 = .ok (.if_icmp .gt 64, 3))) (by decide)) <|
  zcons (a := (47, zi_al 0 48)) (zs_al_n (M := 187) (pc := 47) (zd_eq zk187 (by decide +kernel : decode cX7_leans 47 = .ok (.aload_n 0, 1)))) <|
  zcons (a := (48, zi_gr 7 0 51)) (zs_gr (M := 187) (pc := 48) (n := 0) (ci := 7) (k := 0) (C := RX7) (T := TX7) (N := 26) (zd_eq zk187 (by decide +kernel : decode cX7_leans 48 = .ok (.getfield 7, 3))) rfl (by decide) (by decide) zin_7 (zl_f zo187 zw_796)) <|
  zcons (a := (51, zi_k (.int 10) 53)) (zs_bipush (M := 187) (pc := 51) (zd_eq zk187 (by decide +kernel : decode cX7_leans 51 = .ok (.bipush 10, 2))) (by decide)) <|
  zcons (a := (53, zi_il 1 54)) (zs_il_n (M := 187) (pc := 53) (zd_eq zk187 (by decide +kernel : decode cX7_leans 53 = .ok (.iload_n 1, 1)))) <|
  zcons (a := (54, zi_bin (· + ·) 55)) (zs_iadd (M := 187) (pc := 54) (zd_eq zk187 (by decide +kernel : decode cX7_leans 54 = .ok (.iadd, 1)))) <|
  zcons (a := (55, zi_il 6 57)) (zs_il_w (M := 187) (pc := 55) (zd_eq zk187 (by decide +kernel : decode cX7_leans 55 = .ok (.iload 6, 2)))) <|
  zcons (a := (57, zi_k (.int 20) 59)) (zs_bipush (M := 187) (pc := 57) (zd_eq zk187 (by decide +kernel : decode cX7_leans 57 = .ok (.bipush 20, 2))) (by decide)) <|
  zcons (a := (59, zi_bin (· - ·) 60)) (zs_isub (M := 187) (pc := 59) (zd_eq zk187 (by decide +kernel : decode cX7_leans 59 = .ok (.isub, 1)))) <|
  zcons (a := (60, zi_ast 0 (fun x => x) 61)) (zs_iast (M := 187) (pc := 60) (zd_eq zk187 (by decide +kernel : decode cX7_leans 60 = .ok (.iastore, 1)))) <|
  zcons (a := (61, zi_al 0 62)) (zs_al_n (M := 187) (pc := 61) (zd_eq zk187 (by decide +kernel : decode cX7_leans 61 = .ok (.aload_n 0, 1)))) <|
  zcons (a := (62, zi_k (.int 0) 63)) (zs_iconst (M := 187) (pc := 62) (zd_eq zk187 (by decide +kernel : decode cX7_leans 62 = .ok (.iconst 0, 1))) (by decide)) <|
  zcons (a := (63, zi_cv 183 1 7 66 1)) (zs_cv (M := 187) (pc := 63) (M' := 183) (k := 1) (kd := 1) (ci := 7) (q := (RX7, TX7, 26)) (zd_eq zk187 (by decide +kernel : decode cX7_leans 63 = .ok (.invokevirtual 218, 3))) zWd183 (zl_m zo187 zy183 zw_1136) (zl_i zy183 zw_1138) (zl_e zy183 zw_47) (by decide) rfl (by rw [zo183])) <|
  zcons (a := (66, zi_is 7 68)) (zs_is_w (M := 187) (pc := 66) (zd_eq zk187 (by decide +kernel : decode cX7_leans 66 = .ok (.istore 7, 2))) (by decide +kernel) (by decide +kernel)) <|
  zcons (a := (68, zi_il 7 70)) (zs_il_w (M := 187) (pc := 68) (zd_eq zk187 (by decide +kernel : decode cX7_leans 68 = .ok (.iload 7, 2)))) <|
  zcons (a := (70, zi_b1 (fun x => x = 0) 83 73)) (zs_ifeq (M := 187) (pc := 70) (zd_eq zk187 (by decide +kernel : decode cX7_leans 70 = .ok (.ifCond .eq 13, 3))) (by decide)) <|
  zcons (a := (73, zi_il 4 75)) (zs_il_w (M := 187) (pc := 73) (zd_eq zk187 (by decide +kernel : decode cX7_leans 73 = .ok (.iload 4, 2)))) <|
  zcons (a := (75, zi_b1 (fun x => ¬ x = 0) 83 78)) (zs_ifne (M := 187) (pc := 75) (zd_eq zk187 (by decide +kernel : decode cX7_leans 75 = .ok (.ifCond .ne 8, 3))) (by decide)) <|
  zcons (a := (78, zi_il 6 80)) (zs_il_w (M := 187) (pc := 78) (zd_eq zk187 (by decide +kernel : decode cX7_leans 78 = .ok (.iload 6, 2)))) <|
  zcons (a := (80, zi_go 85)) (zs_goto (M := 187) (pc := 80) (zd_eq zk187 (by decide +kernel : decode cX7_leans 80 = .ok (.goto 5, 3))) (by decide)) <|
  zcons (a := (83, zi_il 5 85)) (zs_il_w (M := 187) (pc := 83) (zd_eq zk187 (by decide +kernel : decode cX7_leans 83 = .ok (.iload 5, 2)))) <| znil
theorem zS187_2 : ∀ q ∈ zm_c187_2, zm_Snd 187 q.1 q.2 :=
  zcons (a := (85, zi_is 5 87)) (zs_is_w (M := 187) (pc := 85) (zd_eq zk187 (by decide +kernel : decode cX7_leans 85 = .ok (.istore 5, 2))) (by decide +kernel) (by decide +kernel)) <|
  zcons (a := (87, zi_il 4 89)) (zs_il_w (M := 187) (pc := 87) (zd_eq zk187 (by decide +kernel : decode cX7_leans 87 = .ok (.iload 4, 2)))) <|
  zcons (a := (89, zi_il 7 91)) (zs_il_w (M := 187) (pc := 89) (zd_eq zk187 (by decide +kernel : decode cX7_leans 89 = .ok (.iload 7, 2)))) <|
  zcons (a := (91, zi_b1 (fun x => x = 0) 98 94)) (zs_ifeq (M := 187) (pc := 91) (zd_eq zk187 (by decide +kernel : decode cX7_leans 91 = .ok (.ifCond .eq 7, 3))) (by decide)) <|
  zcons (a := (94, zi_k (.int 1) 95)) (zs_iconst (M := 187) (pc := 94) (zd_eq zk187 (by decide +kernel : decode cX7_leans 94 = .ok (.iconst 1, 1))) (by decide)) <|
  zcons (a := (95, zi_go 99)) (zs_goto (M := 187) (pc := 95) (zd_eq zk187 (by decide +kernel : decode cX7_leans 95 = .ok (.goto 4, 3))) (by decide)) <|
  zcons (a := (98, zi_k (.int 0) 99)) (zs_iconst (M := 187) (pc := 98) (zd_eq zk187 (by decide +kernel : decode cX7_leans 98 = .ok (.iconst 0, 1))) (by decide)) <|
  zcons (a := (99, zi_bin (· + ·) 100)) (zs_iadd (M := 187) (pc := 99) (zd_eq zk187 (by decide +kernel : decode cX7_leans 99 = .ok (.iadd, 1)))) <|
  zcons (a := (100, zi_is 4 102)) (zs_is_w (M := 187) (pc := 100) (zd_eq zk187 (by decide +kernel : decode cX7_leans 100 = .ok (.istore 4, 2))) (by decide +kernel) (by decide +kernel)) <|
  zcons (a := (102, zi_inc 6 1 105)) (zs_inc (M := 187) (pc := 102) (zd_eq zk187 (by decide +kernel : decode cX7_leans 102 = .ok (.iinc 6 1, 3))) (by decide) (by decide +kernel) (by decide +kernel)) <|
  zcons (a := (105, zi_go 40)) (zs_goto (M := 187) (pc := 105) (zd_eq zk187 (by decide +kernel : decode cX7_leans 105 = .ok (.goto (-65), 3))) (by decide)) <|
  zcons (a := (108, zi_al 0 109)) (zs_al_n (M := 187) (pc := 108) (zd_eq zk187 (by decide +kernel : decode cX7_leans 108 = .ok (.aload_n 0, 1)))) <|
  zcons (a := (109, zi_gr 7 0 112)) (zs_gr (M := 187) (pc := 109) (n := 0) (ci := 7) (k := 0) (C := RX7) (T := TX7) (N := 26) (zd_eq zk187 (by decide +kernel : decode cX7_leans 109 = .ok (.getfield 7, 3))) rfl (by decide) (by decide) zin_7 (zl_f zo187 zw_796)) <|
  zcons (a := (112, zi_k (.int 10) 114)) (zs_bipush (M := 187) (pc := 112) (zd_eq zk187 (by decide +kernel : decode cX7_leans 112 = .ok (.bipush 10, 2))) (by decide)) <|
  zcons (a := (114, zi_il 1 115)) (zs_il_n (M := 187) (pc := 114) (zd_eq zk187 (by decide +kernel : decode cX7_leans 114 = .ok (.iload_n 1, 1)))) <|
  zcons (a := (115, zi_bin (· + ·) 116)) (zs_iadd (M := 187) (pc := 115) (zd_eq zk187 (by decide +kernel : decode cX7_leans 115 = .ok (.iadd, 1)))) <|
  zcons (a := (116, zi_il 3 117)) (zs_il_n (M := 187) (pc := 116) (zd_eq zk187 (by decide +kernel : decode cX7_leans 116 = .ok (.iload_n 3, 1)))) <|
  zcons (a := (117, zi_ast 0 (fun x => x) 118)) (zs_iast (M := 187) (pc := 117) (zd_eq zk187 (by decide +kernel : decode cX7_leans 117 = .ok (.iastore, 1)))) <|
  zcons (a := (118, zi_il 2 119)) (zs_il_n (M := 187) (pc := 118) (zd_eq zk187 (by decide +kernel : decode cX7_leans 118 = .ok (.iload_n 2, 1)))) <|
  zcons (a := (119, zi_b1 (fun x => ¬ x = 0) 127 122)) (zs_ifne (M := 187) (pc := 119) (zd_eq zk187 (by decide +kernel : decode cX7_leans 119 = .ok (.ifCond .ne 8, 3))) (by decide)) <|
  zcons (a := (122, zi_il 4 124)) (zs_il_w (M := 187) (pc := 122) (zd_eq zk187 (by decide +kernel : decode cX7_leans 122 = .ok (.iload 4, 2)))) <|
  zcons (a := (124, zi_go 129)) (zs_goto (M := 187) (pc := 124) (zd_eq zk187 (by decide +kernel : decode cX7_leans 124 = .ok (.goto 5, 3))) (by decide)) <|
  zcons (a := (127, zi_il 5 129)) (zs_il_w (M := 187) (pc := 127) (zd_eq zk187 (by decide +kernel : decode cX7_leans 127 = .ok (.iload 5, 2)))) <|
  zcons (a := (129, zi_ri)) (zs_ri (M := 187) (pc := 129) (zd_eq zk187 (by decide +kernel : decode cX7_leans 129 = .ok (.ireturn, 1))) rfl) <| znil
theorem zS187 : ∀ pc, zm_Snd 187 pc (zm_lk2 zm_c187 pc) := zlk2 (zcons2 zS187_0 (zcons2 zS187_1 (zcons2 zS187_2 (znil2))))
theorem zS188_0 : ∀ q ∈ zm_c188_0, zm_Snd 188 q.1 q.2 :=
  zcons (a := (0, zi_al 0 1)) (zs_al_n (M := 188) (pc := 0) (zd_eq zk188 (by decide +kernel : decode cX7_ask 0 = .ok (.aload_n 0, 1)))) <|
  zcons (a := (1, zi_il 1 2)) (zs_il_n (M := 188) (pc := 1) (zd_eq zk188 (by decide +kernel : decode cX7_ask 1 = .ok (.iload_n 1, 1)))) <|
  zcons (a := (2, zi_cv 135 1 7 5 1)) (zs_cv (M := 188) (pc := 2) (M' := 135) (k := 1) (kd := 1) (ci := 7) (q := (RX7, TX7, 26)) (zd_eq zk188 (by decide +kernel : decode cX7_ask 2 = .ok (.invokevirtual 150, 3))) zWd135 (zl_m zo188 zy135 zw_953) (zl_i zy135 zw_955) (zl_e zy135 zw_31) (by decide) rfl (by rw [zo135])) <|
  zcons (a := (5, zi_b1 (fun x => x = 0) 18 8)) (zs_ifeq (M := 188) (pc := 5) (zd_eq zk188 (by decide +kernel : decode cX7_ask 5 = .ok (.ifCond .eq 13, 3))) (by decide)) <|
  zcons (a := (8, zi_il 2 9)) (zs_il_n (M := 188) (pc := 8) (zd_eq zk188 (by decide +kernel : decode cX7_ask 8 = .ok (.iload_n 2, 1)))) <|
  zcons (a := (9, zi_i2l 10)) (zs_i2l (M := 188) (pc := 9) (zd_eq zk188 (by decide +kernel : decode cX7_ask 9 = .ok (.i2l, 1)))) <|
  zcons (a := (10, zi_k (.long 0) 11)) (zs_lconst (M := 188) (pc := 10) (zd_eq zk188 (by decide +kernel : decode cX7_ask 10 = .ok (.lconst 0, 1))) (by decide)) <|
  zcons (a := (11, zi_k (.long 1) 12)) (zs_lconst (M := 188) (pc := 11) (zd_eq zk188 (by decide +kernel : decode cX7_ask 11 = .ok (.lconst 1, 1))) (by decide)) <|
  zcons (a := (12, zi_cs 123 3 15 1)) (zs_cs (M := 188) (pc := 12) (M' := 123) (k := 3) (kd := 1) (zd_eq zk188 (by decide +kernel : decode cX7_ask 12 = .ok (.invokestatic 49, 3))) zWd123 (zl_m zo188 zy123 zw_880) (zl_s zy123 zw_881)) <|
  zcons (a := (15, zi_b1 (fun x => ¬ x = 0) 20 18)) (zs_ifne (M := 188) (pc := 15) (zd_eq zk188 (by decide +kernel : decode cX7_ask 15 = .ok (.ifCond .ne 5, 3))) (by decide)) <|
  zcons (a := (18, zi_k (.int (-1)) 19)) (zs_iconst (M := 188) (pc := 18) (zd_eq zk188 (by decide +kernel : decode cX7_ask 18 = .ok (.iconst (-1), 1))) (by decide)) <|
  zcons (a := (19, zi_ri)) (zs_ri (M := 188) (pc := 19) (zd_eq zk188 (by decide +kernel : decode cX7_ask 19 = .ok (.ireturn, 1))) rfl) <|
  zcons (a := (20, zi_al 0 21)) (zs_al_n (M := 188) (pc := 20) (zd_eq zk188 (by decide +kernel : decode cX7_ask 20 = .ok (.aload_n 0, 1)))) <|
  zcons (a := (21, zi_il 1 22)) (zs_il_n (M := 188) (pc := 21) (zd_eq zk188 (by decide +kernel : decode cX7_ask 21 = .ok (.iload_n 1, 1)))) <|
  zcons (a := (22, zi_cv 184 1 7 25 1)) (zs_cv (M := 188) (pc := 22) (M' := 184) (k := 1) (kd := 1) (ci := 7) (q := (RX7, TX7, 26)) (zd_eq zk188 (by decide +kernel : decode cX7_ask 22 = .ok (.invokevirtual 221, 3))) zWd184 (zl_m zo188 zy184 zw_1132) (zl_i zy184 zw_1134) (zl_e zy184 zw_46) (by decide) rfl (by rw [zo184])) <|
  zcons (a := (25, zi_is 3 26)) (zs_is_n (M := 188) (pc := 25) (zd_eq zk188 (by decide +kernel : decode cX7_ask 25 = .ok (.istore_n 3, 1))) (by decide +kernel) (by decide +kernel)) <|
  zcons (a := (26, zi_il 3 27)) (zs_il_n (M := 188) (pc := 26) (zd_eq zk188 (by decide +kernel : decode cX7_ask 26 = .ok (.iload_n 3, 1)))) <|
  zcons (a := (27, zi_cs 146 1 30 1)) (zs_cs (M := 188) (pc := 27) (M' := 146) (k := 1) (kd := 1) (zd_eq zk188 (by decide +kernel : decode cX7_ask 27 = .ok (.invokestatic 179, 3))) zWd146 (zl_m zo188 zy146 zw_1031) (zl_s zy146 zw_1032)) <|
  zcons (a := (30, zi_is 4 32)) (zs_is_w (M := 188) (pc := 30) (zd_eq zk188 (by decide +kernel : decode cX7_ask 30 = .ok (.istore 4, 2))) (by decide +kernel) (by decide +kernel)) <|
  zcons (a := (32, zi_k (.int (-4)) 34)) (zs_bipush (M := 188) (pc := 32) (zd_eq zk188 (by decide +kernel : decode cX7_ask 32 = .ok (.bipush (-4), 2))) (by decide)) <|
  zcons (a := (34, zi_is 5 36)) (zs_is_w (M := 188) (pc := 34) (zd_eq zk188 (by decide +kernel : decode cX7_ask 34 = .ok (.istore 5, 2))) (by decide +kernel) (by decide +kernel)) <|
  zcons (a := (36, zi_k (.int 0) 37)) (zs_iconst (M := 188) (pc := 36) (zd_eq zk188 (by decide +kernel : decode cX7_ask 36 = .ok (.iconst 0, 1))) (by decide)) <|
  zcons (a := (37, zi_is 6 39)) (zs_is_w (M := 188) (pc := 37) (zd_eq zk188 (by decide +kernel : decode cX7_ask 37 = .ok (.istore 6, 2))) (by decide +kernel) (by decide +kernel)) <|
  zcons (a := (39, zi_il 6 41)) (zs_il_w (M := 188) (pc := 39) (zd_eq zk188 (by decide +kernel : decode cX7_ask 39 = .ok (.iload 6, 2)))) <| znil
theorem zS188_1 : ∀ q ∈ zm_c188_1, zm_Snd 188 q.1 q.2 :=
  zcons (a := (41, zi_k (.int 30) 43)) (zs_bipush (M := 188) (pc := 41) (zd_eq zk188 (by decide +kernel : decode cX7_ask 41 = .ok (.bipush 30, 2))) (by decide)) <|
  zcons (a := (43, zi_b2 (fun x y => y < x) 195 46)) (zs_icmpgt (M := 188) (pc := 43) (zd_eq zk188 (by decide +kernel : decode cX7_ask 43 = .ok (.if_icmp .gt 152, 3))) (by decide)) <|
  zcons (a := (46, zi_k (.int 0) 47)) (zs_iconst (M := 188) (pc := 46) (zd_eq zk188 (by decide +kernel : decode cX7_ask 46 = .ok (.iconst 0, 1))) (by decide)) <|
  zcons (a := (47, zi_is 7 49)) (zs_is_w (M := 188) (pc := 47) (zd_eq zk188 (by decide +kernel : decode cX7_ask 47 = .ok (.istore 7, 2))) (by decide +kernel) (by decide +kernel)) <|
  zcons (a := (49, zi_k (.int 0) 50)) (zs_iconst (M := 188) (pc := 49) (zd_eq zk188 (by decide +kernel : decode cX7_ask 49 = .ok (.iconst 0, 1))) (by decide)) <|
  zcons (a := (50, zi_is 8 52)) (zs_is_w (M := 188) (pc := 50) (zd_eq zk188 (by decide +kernel : decode cX7_ask 50 = .ok (.istore 8, 2))) (by decide +kernel) (by decide +kernel)) <|
  zcons (a := (52, zi_il 8 54)) (zs_il_w (M := 188) (pc := 52) (zd_eq zk188 (by decide +kernel : decode cX7_ask 52 = .ok (.iload 8, 2)))) <|
  zcons (a := (54, zi_k (.int 4) 55)) (zs_iconst (M := 188) (pc := 54) (zd_eq zk188 (by decide +kernel : decode cX7_ask 54 = .ok (.iconst 4, 1))) (by decide)) <|
  zcons (a := (55, zi_b2 (fun x y => y ≤ x) 157 58)) (zs_icmpge (M := 188) (pc := 55) (zd_eq zk188 (by decide +kernel : decode cX7_ask 55 = .ok (.if_icmp .ge 102, 3))) (by decide)) <|
  zcons (a := (58, zi_k (.int 0) 59)) (zs_iconst (M := 188) (pc := 58) (zd_eq zk188 (by decide +kernel : decode cX7_ask 58 = .ok (.iconst 0, 1))) (by decide)) <|
  zcons (a := (59, zi_is 9 61)) (zs_is_w (M := 188) (pc := 59) (zd_eq zk188 (by decide +kernel : decode cX7_ask 59 = .ok (.istore 9, 2))) (by decide +kernel) (by decide +kernel)) <|
  zcons (a := (61, zi_k (.int 0) 62)) (zs_iconst (M := 188) (pc := 61) (zd_eq zk188 (by decide +kernel : decode cX7_ask 61 = .ok (.iconst 0, 1))) (by decide)) <|
  zcons (a := (62, zi_is 10 64)) (zs_is_w (M := 188) (pc := 62) (zd_eq zk188 (by decide +kernel : decode cX7_ask 62 = .ok (.istore 10, 2))) (by decide +kernel) (by decide +kernel)) <|
  zcons (a := (64, zi_il 10 66)) (zs_il_w (M := 188) (pc := 64) (zd_eq zk188 (by decide +kernel : decode cX7_ask 64 = .ok (.iload 10, 2)))) <|
  zcons (a := (66, zi_k (.int 4) 67)) (zs_iconst (M := 188) (pc := 66) (zd_eq zk188 (by decide +kernel : decode cX7_ask 66 = .ok (.iconst 4, 1))) (by decide)) <|
  zcons (a := (67, zi_b2 (fun x y => y ≤ x) 135 70)) (zs_icmpge (M := 188) (pc := 67) (zd_eq zk188 (by decide +kernel : decode cX7_ask 67 = .ok (.if_icmp .ge 68, 3))) (by decide)) <|
  zcons (a := (70, zi_il 3 71)) (zs_il_n (M := 188) (pc := 70) (zd_eq zk188 (by decide +kernel : decode cX7_ask 70 = .ok (.iload_n 3, 1)))) <|
  zcons (a := (71, zi_il 8 73)) (zs_il_w (M := 188) (pc := 71) (zd_eq zk188 (by decide +kernel : decode cX7_ask 71 = .ok (.iload 8, 2)))) <|
  zcons (a := (73, zi_bin (fun x y => x >>> (y &&& 31)) 74)) (zs_ishr (M := 188) (pc := 73) (zd_eq zk188 (by decide +kernel : decode cX7_ask 73 = .ok (.ishr, 1)))) <|
  zcons (a := (74, zi_k (.int 1) 75)) (zs_iconst (M := 188) (pc := 74) (zd_eq zk188 (by decide +kernel : decode cX7_ask 74 = .ok (.iconst 1, 1))) (by decide)) <|
  zcons (a := (75, zi_bin (· &&& ·) 76)) (zs_iand (M := 188) (pc := 75) (zd_eq zk188 (by decide +kernel : decode cX7_ask 75 = .ok (.iand, 1)))) <|
  zcons (a := (76, zi_k (.int 1) 77)) (zs_iconst (M := 188) (pc := 76) (zd_eq zk188 (by decide +kernel : decode cX7_ask 76 = .ok (.iconst 1, 1))) (by decide)) <|
  zcons (a := (77, zi_b2 (fun x y => ¬ x = y) 135 80)) (zs_icmpne (M := 188) (pc := 77) (zd_eq zk188 (by decide +kernel : decode cX7_ask 77 = .ok (.if_icmp .ne 58, 3))) (by decide)) <|
  zcons (a := (80, zi_il 9 82)) (zs_il_w (M := 188) (pc := 80) (zd_eq zk188 (by decide +kernel : decode cX7_ask 80 = .ok (.iload 9, 2)))) <| znil
theorem zS188_2 : ∀ q ∈ zm_c188_2, zm_Snd 188 q.1 q.2 :=
  zcons (a := (82, zi_il 3 83)) (zs_il_n (M := 188) (pc := 82) (zd_eq zk188 (by decide +kernel : decode cX7_ask 82 = .ok (.iload_n 3, 1)))) <|
  zcons (a := (83, zi_il 10 85)) (zs_il_w (M := 188) (pc := 83) (zd_eq zk188 (by decide +kernel : decode cX7_ask 83 = .ok (.iload 10, 2)))) <|
  zcons (a := (85, zi_bin (fun x y => x >>> (y &&& 31)) 86)) (zs_ishr (M := 188) (pc := 85) (zd_eq zk188 (by decide +kernel : decode cX7_ask 85 = .ok (.ishr, 1)))) <|
  zcons (a := (86, zi_k (.int 1) 87)) (zs_iconst (M := 188) (pc := 86) (zd_eq zk188 (by decide +kernel : decode cX7_ask 86 = .ok (.iconst 1, 1))) (by decide)) <|
  zcons (a := (87, zi_bin (· &&& ·) 88)) (zs_iand (M := 188) (pc := 87) (zd_eq zk188 (by decide +kernel : decode cX7_ask 87 = .ok (.iand, 1)))) <|
  zcons (a := (88, zi_k (.int 1) 89)) (zs_iconst (M := 188) (pc := 88) (zd_eq zk188 (by decide +kernel : decode cX7_ask 88 = .ok (.iconst 1, 1))) (by decide)) <|
  zcons (a := (89, zi_b2 (fun x y => ¬ x = y) 125 92)) (zs_icmpne (M := 188) (pc := 89) (zd_eq zk188 (by decide +kernel : decode cX7_ask 89 = .ok (.if_icmp .ne 36, 3))) (by decide)) <|
  zcons (a := (92, zi_al 0 93)) (zs_al_n (M := 188) (pc := 92) (zd_eq zk188 (by decide +kernel : decode cX7_ask 92 = .ok (.aload_n 0, 1)))) <|
  zcons (a := (93, zi_gr 7 20 96)) (zs_gr (M := 188) (pc := 93) (n := 0) (ci := 7) (k := 20) (C := RX7) (T := TX7) (N := 26) (zd_eq zk188 (by decide +kernel : decode cX7_ask 93 = .ok (.getfield 31, 3))) rfl (by decide) (by decide) zin_7 (zl_f zo188 zw_816)) <|
  zcons (a := (96, zi_k (.int 31) 98)) (zs_bipush (M := 188) (pc := 96) (zd_eq zk188 (by decide +kernel : decode cX7_ask 96 = .ok (.bipush 31, 2))) (by decide)) <|
  zcons (a := (98, zi_il 8 100)) (zs_il_w (M := 188) (pc := 98) (zd_eq zk188 (by decide +kernel : decode cX7_ask 98 = .ok (.iload 8, 2)))) <|
  zcons (a := (100, zi_bin (· * ·) 101)) (zs_imul (M := 188) (pc := 100) (zd_eq zk188 (by decide +kernel : decode cX7_ask 100 = .ok (.imul, 1)))) <|
  zcons (a := (101, zi_il 6 103)) (zs_il_w (M := 188) (pc := 101) (zd_eq zk188 (by decide +kernel : decode cX7_ask 101 = .ok (.iload 6, 2)))) <|
  zcons (a := (103, zi_bin (· + ·) 104)) (zs_iadd (M := 188) (pc := 103) (zd_eq zk188 (by decide +kernel : decode cX7_ask 103 = .ok (.iadd, 1)))) <|
  zcons (a := (104, zi_ald 0 105)) (zs_iald (M := 188) (pc := 104) (zd_eq zk188 (by decide +kernel : decode cX7_ask 104 = .ok (.iaload, 1)))) <|
  zcons (a := (105, zi_al 0 106)) (zs_al_n (M := 188) (pc := 105) (zd_eq zk188 (by decide +kernel : decode cX7_ask 105 = .ok (.aload_n 0, 1)))) <|
  zcons (a := (106, zi_gr 7 20 109)) (zs_gr (M := 188) (pc := 106) (n := 0) (ci := 7) (k := 20) (C := RX7) (T := TX7) (N := 26) (zd_eq zk188 (by decide +kernel : decode cX7_ask 106 = .ok (.getfield 31, 3))) rfl (by decide) (by decide) zin_7 (zl_f zo188 zw_816)) <|
  zcons (a := (109, zi_k (.int 31) 111)) (zs_bipush (M := 188) (pc := 109) (zd_eq zk188 (by decide +kernel : decode cX7_ask 109 = .ok (.bipush 31, 2))) (by decide)) <|
  zcons (a := (111, zi_il 10 113)) (zs_il_w (M := 188) (pc := 111) (zd_eq zk188 (by decide +kernel : decode cX7_ask 111 = .ok (.iload 10, 2)))) <|
  zcons (a := (113, zi_bin (· * ·) 114)) (zs_imul (M := 188) (pc := 113) (zd_eq zk188 (by decide +kernel : decode cX7_ask 113 = .ok (.imul, 1)))) <|
  zcons (a := (114, zi_il 6 116)) (zs_il_w (M := 188) (pc := 114) (zd_eq zk188 (by decide +kernel : decode cX7_ask 114 = .ok (.iload 6, 2)))) <|
  zcons (a := (116, zi_bin (· + ·) 117)) (zs_iadd (M := 188) (pc := 116) (zd_eq zk188 (by decide +kernel : decode cX7_ask 116 = .ok (.iadd, 1)))) <|
  zcons (a := (117, zi_ald 0 118)) (zs_iald (M := 188) (pc := 117) (zd_eq zk188 (by decide +kernel : decode cX7_ask 117 = .ok (.iaload, 1)))) <|
  zcons (a := (118, zi_b2 (fun x y => ¬ x = y) 125 121)) (zs_icmpne (M := 188) (pc := 118) (zd_eq zk188 (by decide +kernel : decode cX7_ask 118 = .ok (.if_icmp .ne 7, 3))) (by decide)) <| znil
theorem zS188_3 : ∀ q ∈ zm_c188_3, zm_Snd 188 q.1 q.2 :=
  zcons (a := (121, zi_k (.int 1) 122)) (zs_iconst (M := 188) (pc := 121) (zd_eq zk188 (by decide +kernel : decode cX7_ask 121 = .ok (.iconst 1, 1))) (by decide)) <|
  zcons (a := (122, zi_go 126)) (zs_goto (M := 188) (pc := 122) (zd_eq zk188 (by decide +kernel : decode cX7_ask 122 = .ok (.goto 4, 3))) (by decide)) <|
  zcons (a := (125, zi_k (.int 0) 126)) (zs_iconst (M := 188) (pc := 125) (zd_eq zk188 (by decide +kernel : decode cX7_ask 125 = .ok (.iconst 0, 1))) (by decide)) <|
  zcons (a := (126, zi_bin (· + ·) 127)) (zs_iadd (M := 188) (pc := 126) (zd_eq zk188 (by decide +kernel : decode cX7_ask 126 = .ok (.iadd, 1)))) <|
  zcons (a := (127, zi_is 9 129)) (zs_is_w (M := 188) (pc := 127) (zd_eq zk188 (by decide +kernel : decode cX7_ask 127 = .ok (.istore 9, 2))) (by decide +kernel) (by decide +kernel)) <|
  zcons (a := (129, zi_inc 10 1 132)) (zs_inc (M := 188) (pc := 129) (zd_eq zk188 (by decide +kernel : decode cX7_ask 129 = .ok (.iinc 10 1, 3))) (by decide) (by decide +kernel) (by decide +kernel)) <|
  zcons (a := (132, zi_go 64)) (zs_goto (M := 188) (pc := 132) (zd_eq zk188 (by decide +kernel : decode cX7_ask 132 = .ok (.goto (-68), 3))) (by decide)) <|
  zcons (a := (135, zi_il 9 137)) (zs_il_w (M := 188) (pc := 135) (zd_eq zk188 (by decide +kernel : decode cX7_ask 135 = .ok (.iload 9, 2)))) <|
  zcons (a := (137, zi_il 7 139)) (zs_il_w (M := 188) (pc := 137) (zd_eq zk188 (by decide +kernel : decode cX7_ask 137 = .ok (.iload 7, 2)))) <|
  zcons (a := (139, zi_b2 (fun x y => x ≤ y) 147 142)) (zs_icmple (M := 188) (pc := 139) (zd_eq zk188 (by decide +kernel : decode cX7_ask 139 = .ok (.if_icmp .le 8, 3))) (by decide)) <|
  zcons (a := (142, zi_il 9 144)) (zs_il_w (M := 188) (pc := 142) (zd_eq zk188 (by decide +kernel : decode cX7_ask 142 = .ok (.iload 9, 2)))) <|
  zcons (a := (144, zi_go 149)) (zs_goto (M := 188) (pc := 144) (zd_eq zk188 (by decide +kernel : decode cX7_ask 144 = .ok (.goto 5, 3))) (by decide)) <|
  zcons (a := (147, zi_il 7 149)) (zs_il_w (M := 188) (pc := 147) (zd_eq zk188 (by decide +kernel : decode cX7_ask 147 = .ok (.iload 7, 2)))) <|
  zcons (a := (149, zi_is 7 151)) (zs_is_w (M := 188) (pc := 149) (zd_eq zk188 (by decide +kernel : decode cX7_ask 149 = .ok (.istore 7, 2))) (by decide +kernel) (by decide +kernel)) <|
  zcons (a := (151, zi_inc 8 1 154)) (zs_inc (M := 188) (pc := 151) (zd_eq zk188 (by decide +kernel : decode cX7_ask 151 = .ok (.iinc 8 1, 3))) (by decide) (by decide +kernel) (by decide +kernel)) <|
  zcons (a := (154, zi_go 52)) (zs_goto (M := 188) (pc := 154) (zd_eq zk188 (by decide +kernel : decode cX7_ask 154 = .ok (.goto (-102), 3))) (by decide)) <|
  zcons (a := (157, zi_il 7 159)) (zs_il_w (M := 188) (pc := 157) (zd_eq zk188 (by decide +kernel : decode cX7_ask 157 = .ok (.iload 7, 2)))) <|
  zcons (a := (159, zi_il 4 161)) (zs_il_w (M := 188) (pc := 159) (zd_eq zk188 (by decide +kernel : decode cX7_ask 159 = .ok (.iload 4, 2)))) <|
  zcons (a := (161, zi_b2 (fun x y => y ≤ x) 169 164)) (zs_icmpge (M := 188) (pc := 161) (zd_eq zk188 (by decide +kernel : decode cX7_ask 161 = .ok (.if_icmp .ge 8, 3))) (by decide)) <|
  zcons (a := (164, zi_il 6 166)) (zs_il_w (M := 188) (pc := 164) (zd_eq zk188 (by decide +kernel : decode cX7_ask 164 = .ok (.iload 6, 2)))) <|
  zcons (a := (166, zi_go 171)) (zs_goto (M := 188) (pc := 166) (zd_eq zk188 (by decide +kernel : decode cX7_ask 166 = .ok (.goto 5, 3))) (by decide)) <|
  zcons (a := (169, zi_il 5 171)) (zs_il_w (M := 188) (pc := 169) (zd_eq zk188 (by decide +kernel : decode cX7_ask 169 = .ok (.iload 5, 2)))) <|
  zcons (a := (171, zi_is 5 173)) (zs_is_w (M := 188) (pc := 171) (zd_eq zk188 (by decide +kernel : decode cX7_ask 171 = .ok (.istore 5, 2))) (by decide +kernel) (by decide +kernel)) <|
  zcons (a := (173, zi_il 7 175)) (zs_il_w (M := 188) (pc := 173) (zd_eq zk188 (by decide +kernel : decode cX7_ask 173 = .ok (.iload 7, 2)))) <| znil
theorem zS188_4 : ∀ q ∈ zm_c188_4, zm_Snd 188 q.1 q.2 :=
  zcons (a := (175, zi_il 4 177)) (zs_il_w (M := 188) (pc := 175) (zd_eq zk188 (by decide +kernel : decode cX7_ask 175 = .ok (.iload 4, 2)))) <|
  zcons (a := (177, zi_b2 (fun x y => y ≤ x) 185 180)) (zs_icmpge (M := 188) (pc := 177) (zd_eq zk188 (by decide +kernel : decode cX7_ask 177 = .ok (.if_icmp .ge 8, 3))) (by decide)) <|
  zcons (a := (180, zi_il 7 182)) (zs_il_w (M := 188) (pc := 180) (zd_eq zk188 (by decide +kernel : decode cX7_ask 180 = .ok (.iload 7, 2)))) <|
  zcons (a := (182, zi_go 187)) (zs_goto (M := 188) (pc := 182) (zd_eq zk188 (by decide +kernel : decode cX7_ask 182 = .ok (.goto 5, 3))) (by decide)) <|
  zcons (a := (185, zi_il 4 187)) (zs_il_w (M := 188) (pc := 185) (zd_eq zk188 (by decide +kernel : decode cX7_ask 185 = .ok (.iload 4, 2)))) <|
  zcons (a := (187, zi_is 4 189)) (zs_is_w (M := 188) (pc := 187) (zd_eq zk188 (by decide +kernel : decode cX7_ask 187 = .ok (.istore 4, 2))) (by decide +kernel) (by decide +kernel)) <|
  zcons (a := (189, zi_inc 6 1 192)) (zs_inc (M := 188) (pc := 189) (zd_eq zk188 (by decide +kernel : decode cX7_ask 189 = .ok (.iinc 6 1, 3))) (by decide) (by decide +kernel) (by decide +kernel)) <|
  zcons (a := (192, zi_go 39)) (zs_goto (M := 188) (pc := 192) (zd_eq zk188 (by decide +kernel : decode cX7_ask 192 = .ok (.goto (-153), 3))) (by decide)) <|
  zcons (a := (195, zi_il 5 197)) (zs_il_w (M := 188) (pc := 195) (zd_eq zk188 (by decide +kernel : decode cX7_ask 195 = .ok (.iload 5, 2)))) <|
  zcons (a := (197, zi_k (.int (-4)) 199)) (zs_bipush (M := 188) (pc := 197) (zd_eq zk188 (by decide +kernel : decode cX7_ask 197 = .ok (.bipush (-4), 2))) (by decide)) <|
  zcons (a := (199, zi_b2 (fun x y => x = y) 206 202)) (zs_icmpeq (M := 188) (pc := 199) (zd_eq zk188 (by decide +kernel : decode cX7_ask 199 = .ok (.if_icmp .eq 7, 3))) (by decide)) <|
  zcons (a := (202, zi_il 2 203)) (zs_il_n (M := 188) (pc := 202) (zd_eq zk188 (by decide +kernel : decode cX7_ask 202 = .ok (.iload_n 2, 1)))) <|
  zcons (a := (203, zi_b1 (fun x => ¬ x = 0) 211 206)) (zs_ifne (M := 188) (pc := 203) (zd_eq zk188 (by decide +kernel : decode cX7_ask 203 = .ok (.ifCond .ne 8, 3))) (by decide)) <|
  zcons (a := (206, zi_il 5 208)) (zs_il_w (M := 188) (pc := 206) (zd_eq zk188 (by decide +kernel : decode cX7_ask 206 = .ok (.iload 5, 2)))) <|
  zcons (a := (208, zi_go 213)) (zs_goto (M := 188) (pc := 208) (zd_eq zk188 (by decide +kernel : decode cX7_ask 208 = .ok (.goto 5, 3))) (by decide)) <|
  zcons (a := (211, zi_il 4 213)) (zs_il_w (M := 188) (pc := 211) (zd_eq zk188 (by decide +kernel : decode cX7_ask 211 = .ok (.iload 4, 2)))) <|
  zcons (a := (213, zi_ri)) (zs_ri (M := 188) (pc := 213) (zd_eq zk188 (by decide +kernel : decode cX7_ask 213 = .ok (.ireturn, 1))) rfl) <| znil
theorem zS188 : ∀ pc, zm_Snd 188 pc (zm_lk2 zm_c188 pc) := zlk2 (zcons2 zS188_0 (zcons2 zS188_1 (zcons2 zS188_2 (zcons2 zS188_3 (zcons2 zS188_4 (znil2))))))
theorem zS189_0 : ∀ q ∈ zm_c189_0, zm_Snd 189 q.1 q.2 :=
  zcons (a := (0, zi_il 2 1)) (zs_il_n (M := 189) (pc := 0) (zd_eq zk189 (by decide +kernel : decode cX7_drift 0 = .ok (.iload_n 2, 1)))) <|
  zcons (a := (1, zi_i2l 2)) (zs_i2l (M := 189) (pc := 1) (zd_eq zk189 (by decide +kernel : decode cX7_drift 1 = .ok (.i2l, 1)))) <|
  zcons (a := (2, zi_k (.long 1) 3)) (zs_lconst (M := 189) (pc := 2) (zd_eq zk189 (by decide +kernel : decode cX7_drift 2 = .ok (.lconst 1, 1))) (by decide)) <|
  zcons (a := (3, zi_k (.long 60) 6)) (zs_ldc2 (M := 189) (pc := 3) (zd_eq zk189 (by decide +kernel : decode cX7_drift 3 = .ok (.ldc2_w 195, 3))) (zl_k2 zo189 zw_1038)) <|
  zcons (a := (6, zi_cs 123 3 9 1)) (zs_cs (M := 189) (pc := 6) (M' := 123) (k := 3) (kd := 1) (zd_eq zk189 (by decide +kernel : decode cX7_drift 6 = .ok (.invokestatic 49, 3))) zWd123 (zl_m zo189 zy123 zw_880) (zl_s zy123 zw_881)) <|
  zcons (a := (9, zi_b1 (fun x => x = 0) 22 12)) (zs_ifeq (M := 189) (pc := 9) (zd_eq zk189 (by decide +kernel : decode cX7_drift 9 = .ok (.ifCond .eq 13, 3))) (by decide)) <|
  zcons (a := (12, zi_il 3 13)) (zs_il_n (M := 189) (pc := 12) (zd_eq zk189 (by decide +kernel : decode cX7_drift 12 = .ok (.iload_n 3, 1)))) <|
  zcons (a := (13, zi_i2l 14)) (zs_i2l (M := 189) (pc := 13) (zd_eq zk189 (by decide +kernel : decode cX7_drift 13 = .ok (.i2l, 1)))) <|
  zcons (a := (14, zi_k (.long 0) 15)) (zs_lconst (M := 189) (pc := 14) (zd_eq zk189 (by decide +kernel : decode cX7_drift 14 = .ok (.lconst 0, 1))) (by decide)) <|
  zcons (a := (15, zi_k (.long 1) 16)) (zs_lconst (M := 189) (pc := 15) (zd_eq zk189 (by decide +kernel : decode cX7_drift 15 = .ok (.lconst 1, 1))) (by decide)) <|
  zcons (a := (16, zi_cs 123 3 19 1)) (zs_cs (M := 189) (pc := 16) (M' := 123) (k := 3) (kd := 1) (zd_eq zk189 (by decide +kernel : decode cX7_drift 16 = .ok (.invokestatic 49, 3))) zWd123 (zl_m zo189 zy123 zw_880) (zl_s zy123 zw_881)) <|
  zcons (a := (19, zi_b1 (fun x => ¬ x = 0) 24 22)) (zs_ifne (M := 189) (pc := 19) (zd_eq zk189 (by decide +kernel : decode cX7_drift 19 = .ok (.ifCond .ne 5, 3))) (by decide)) <|
  zcons (a := (22, zi_k (.int (-1)) 23)) (zs_iconst (M := 189) (pc := 22) (zd_eq zk189 (by decide +kernel : decode cX7_drift 22 = .ok (.iconst (-1), 1))) (by decide)) <|
  zcons (a := (23, zi_ri)) (zs_ri (M := 189) (pc := 23) (zd_eq zk189 (by decide +kernel : decode cX7_drift 23 = .ok (.ireturn, 1))) rfl) <|
  zcons (a := (24, zi_al 0 25)) (zs_al_n (M := 189) (pc := 24) (zd_eq zk189 (by decide +kernel : decode cX7_drift 24 = .ok (.aload_n 0, 1)))) <|
  zcons (a := (25, zi_gr 7 0 28)) (zs_gr (M := 189) (pc := 25) (n := 0) (ci := 7) (k := 0) (C := RX7) (T := TX7) (N := 26) (zd_eq zk189 (by decide +kernel : decode cX7_drift 25 = .ok (.getfield 7, 3))) rfl (by decide) (by decide) zin_7 (zl_f zo189 zw_796)) <|
  zcons (a := (28, zi_k (.int 15) 30)) (zs_bipush (M := 189) (pc := 28) (zd_eq zk189 (by decide +kernel : decode cX7_drift 28 = .ok (.bipush 15, 2))) (by decide)) <|
  zcons (a := (30, zi_ald 0 31)) (zs_iald (M := 189) (pc := 30) (zd_eq zk189 (by decide +kernel : decode cX7_drift 30 = .ok (.iaload, 1)))) <|
  zcons (a := (31, zi_b1 (fun x => ¬ x = 0) 37 34)) (zs_ifne (M := 189) (pc := 31) (zd_eq zk189 (by decide +kernel : decode cX7_drift 31 = .ok (.ifCond .ne 6, 3))) (by decide)) <|
  zcons (a := (34, zi_k (.int (-2)) 36)) (zs_bipush (M := 189) (pc := 34) (zd_eq zk189 (by decide +kernel : decode cX7_drift 34 = .ok (.bipush (-2), 2))) (by decide)) <|
  zcons (a := (36, zi_ri)) (zs_ri (M := 189) (pc := 36) (zd_eq zk189 (by decide +kernel : decode cX7_drift 36 = .ok (.ireturn, 1))) rfl) <|
  zcons (a := (37, zi_al 0 38)) (zs_al_n (M := 189) (pc := 37) (zd_eq zk189 (by decide +kernel : decode cX7_drift 37 = .ok (.aload_n 0, 1)))) <|
  zcons (a := (38, zi_k (.int 0) 39)) (zs_iconst (M := 189) (pc := 38) (zd_eq zk189 (by decide +kernel : decode cX7_drift 38 = .ok (.iconst 0, 1))) (by decide)) <|
  zcons (a := (39, zi_k (.int 124) 41)) (zs_bipush (M := 189) (pc := 39) (zd_eq zk189 (by decide +kernel : decode cX7_drift 39 = .ok (.bipush 124, 2))) (by decide)) <| znil
theorem zS189_1 : ∀ q ∈ zm_c189_1, zm_Snd 189 q.1 q.2 :=
  zcons (a := (41, zi_cv 160 2 7 44 0)) (zs_cv (M := 189) (pc := 41) (M' := 160) (k := 2) (kd := 0) (ci := 7) (q := (RX7, TX7, 26)) (zd_eq zk189 (by decide +kernel : decode cX7_drift 41 = .ok (.invokevirtual 182, 3))) zWd160 (zl_m zo189 zy160 zw_1043) (zl_i zy160 zw_1045) (zl_e zy160 zw_42) (by decide) rfl (by rw [zo160])) <|
  zcons (a := (44, zi_il 1 45)) (zs_il_n (M := 189) (pc := 44) (zd_eq zk189 (by decide +kernel : decode cX7_drift 44 = .ok (.iload_n 1, 1)))) <|
  zcons (a := (45, zi_is 4 47)) (zs_is_w (M := 189) (pc := 45) (zd_eq zk189 (by decide +kernel : decode cX7_drift 45 = .ok (.istore 4, 2))) (by decide +kernel) (by decide +kernel)) <|
  zcons (a := (47, zi_k (.int 0) 48)) (zs_iconst (M := 189) (pc := 47) (zd_eq zk189 (by decide +kernel : decode cX7_drift 47 = .ok (.iconst 0, 1))) (by decide)) <|
  zcons (a := (48, zi_is 5 50)) (zs_is_w (M := 189) (pc := 48) (zd_eq zk189 (by decide +kernel : decode cX7_drift 48 = .ok (.istore 5, 2))) (by decide +kernel) (by decide +kernel)) <|
  zcons (a := (50, zi_il 5 52)) (zs_il_w (M := 189) (pc := 50) (zd_eq zk189 (by decide +kernel : decode cX7_drift 50 = .ok (.iload 5, 2)))) <|
  zcons (a := (52, zi_il 2 53)) (zs_il_n (M := 189) (pc := 52) (zd_eq zk189 (by decide +kernel : decode cX7_drift 52 = .ok (.iload_n 2, 1)))) <|
  zcons (a := (53, zi_b2 (fun x y => y ≤ x) 105 56)) (zs_icmpge (M := 189) (pc := 53) (zd_eq zk189 (by decide +kernel : decode cX7_drift 53 = .ok (.if_icmp .ge 52, 3))) (by decide)) <|
  zcons (a := (56, zi_il 4 58)) (zs_il_w (M := 189) (pc := 56) (zd_eq zk189 (by decide +kernel : decode cX7_drift 56 = .ok (.iload 4, 2)))) <|
  zcons (a := (58, zi_k (.int 1103515245) 60)) (zs_ldc (M := 189) (pc := 58) (zd_eq zk189 (by decide +kernel : decode cX7_drift 58 = .ok (.ldc 224, 2))) (zl_k zo189 zw_1156)) <|
  zcons (a := (60, zi_bin (· * ·) 61)) (zs_imul (M := 189) (pc := 60) (zd_eq zk189 (by decide +kernel : decode cX7_drift 60 = .ok (.imul, 1)))) <|
  zcons (a := (61, zi_k (.int 12345) 64)) (zs_sipush (M := 189) (pc := 61) (zd_eq zk189 (by decide +kernel : decode cX7_drift 61 = .ok (.sipush 12345, 3))) (by decide)) <|
  zcons (a := (64, zi_bin (· + ·) 65)) (zs_iadd (M := 189) (pc := 64) (zd_eq zk189 (by decide +kernel : decode cX7_drift 64 = .ok (.iadd, 1)))) <|
  zcons (a := (65, zi_is 4 67)) (zs_is_w (M := 189) (pc := 65) (zd_eq zk189 (by decide +kernel : decode cX7_drift 65 = .ok (.istore 4, 2))) (by decide +kernel) (by decide +kernel)) <|
  zcons (a := (67, zi_il 4 69)) (zs_il_w (M := 189) (pc := 67) (zd_eq zk189 (by decide +kernel : decode cX7_drift 67 = .ok (.iload 4, 2)))) <|
  zcons (a := (69, zi_k (.int 16) 71)) (zs_bipush (M := 189) (pc := 69) (zd_eq zk189 (by decide +kernel : decode cX7_drift 69 = .ok (.bipush 16, 2))) (by decide)) <|
  zcons (a := (71, zi_bin (fun x y => x >>> (y &&& 31)) 72)) (zs_ishr (M := 189) (pc := 71) (zd_eq zk189 (by decide +kernel : decode cX7_drift 71 = .ok (.ishr, 1)))) <|
  zcons (a := (72, zi_k (.int 32767) 75)) (zs_sipush (M := 189) (pc := 72) (zd_eq zk189 (by decide +kernel : decode cX7_drift 72 = .ok (.sipush 32767, 3))) (by decide)) <|
  zcons (a := (75, zi_bin (· &&& ·) 76)) (zs_iand (M := 189) (pc := 75) (zd_eq zk189 (by decide +kernel : decode cX7_drift 75 = .ok (.iand, 1)))) <|
  zcons (a := (76, zi_is 6 78)) (zs_is_w (M := 189) (pc := 76) (zd_eq zk189 (by decide +kernel : decode cX7_drift 76 = .ok (.istore 6, 2))) (by decide +kernel) (by decide +kernel)) <|
  zcons (a := (78, zi_al 0 79)) (zs_al_n (M := 189) (pc := 78) (zd_eq zk189 (by decide +kernel : decode cX7_drift 78 = .ok (.aload_n 0, 1)))) <|
  zcons (a := (79, zi_k (.int 124) 81)) (zs_bipush (M := 189) (pc := 79) (zd_eq zk189 (by decide +kernel : decode cX7_drift 79 = .ok (.bipush 124, 2))) (by decide)) <|
  zcons (a := (81, zi_il 6 83)) (zs_il_w (M := 189) (pc := 81) (zd_eq zk189 (by decide +kernel : decode cX7_drift 81 = .ok (.iload 6, 2)))) <|
  zcons (a := (83, zi_k (.int 10) 85)) (zs_bipush (M := 189) (pc := 83) (zd_eq zk189 (by decide +kernel : decode cX7_drift 83 = .ok (.bipush 10, 2))) (by decide)) <| znil
theorem zS189_2 : ∀ q ∈ zm_c189_2, zm_Snd 189 q.1 q.2 :=
  zcons (a := (85, zi_rem 86)) (zs_irem (M := 189) (pc := 85) (zd_eq zk189 (by decide +kernel : decode cX7_drift 85 = .ok (.irem, 1)))) <|
  zcons (a := (86, zi_il 6 88)) (zs_il_w (M := 189) (pc := 86) (zd_eq zk189 (by decide +kernel : decode cX7_drift 86 = .ok (.iload 6, 2)))) <|
  zcons (a := (88, zi_k (.int 16) 90)) (zs_bipush (M := 189) (pc := 88) (zd_eq zk189 (by decide +kernel : decode cX7_drift 88 = .ok (.bipush 16, 2))) (by decide)) <|
  zcons (a := (90, zi_div 91)) (zs_idiv (M := 189) (pc := 90) (zd_eq zk189 (by decide +kernel : decode cX7_drift 90 = .ok (.idiv, 1)))) <|
  zcons (a := (91, zi_k (.int 9) 93)) (zs_bipush (M := 189) (pc := 91) (zd_eq zk189 (by decide +kernel : decode cX7_drift 91 = .ok (.bipush 9, 2))) (by decide)) <|
  zcons (a := (93, zi_rem 94)) (zs_irem (M := 189) (pc := 93) (zd_eq zk189 (by decide +kernel : decode cX7_drift 93 = .ok (.irem, 1)))) <|
  zcons (a := (94, zi_k (.int 4) 95)) (zs_iconst (M := 189) (pc := 94) (zd_eq zk189 (by decide +kernel : decode cX7_drift 94 = .ok (.iconst 4, 1))) (by decide)) <|
  zcons (a := (95, zi_bin (· - ·) 96)) (zs_isub (M := 189) (pc := 95) (zd_eq zk189 (by decide +kernel : decode cX7_drift 95 = .ok (.isub, 1)))) <|
  zcons (a := (96, zi_cv 140 3 7 99 0)) (zs_cv (M := 189) (pc := 96) (M' := 140) (k := 3) (kd := 0) (ci := 7) (q := (RX7, TX7, 26)) (zd_eq zk189 (by decide +kernel : decode cX7_drift 96 = .ok (.invokevirtual 134, 3))) zWd140 (zl_m zo189 zy140 zw_1027) (zl_i zy140 zw_1029) (zl_e zy140 zw_40) (by decide) rfl (by rw [zo140])) <|
  zcons (a := (99, zi_inc 5 1 102)) (zs_inc (M := 189) (pc := 99) (zd_eq zk189 (by decide +kernel : decode cX7_drift 99 = .ok (.iinc 5 1, 3))) (by decide) (by decide +kernel) (by decide +kernel)) <|
  zcons (a := (102, zi_go 50)) (zs_goto (M := 189) (pc := 102) (zd_eq zk189 (by decide +kernel : decode cX7_drift 102 = .ok (.goto (-52), 3))) (by decide)) <|
  zcons (a := (105, zi_il 3 106)) (zs_il_n (M := 189) (pc := 105) (zd_eq zk189 (by decide +kernel : decode cX7_drift 105 = .ok (.iload_n 3, 1)))) <|
  zcons (a := (106, zi_b1 (fun x => ¬ x = 0) 118 109)) (zs_ifne (M := 189) (pc := 106) (zd_eq zk189 (by decide +kernel : decode cX7_drift 106 = .ok (.ifCond .ne 12, 3))) (by decide)) <|
  zcons (a := (109, zi_al 0 110)) (zs_al_n (M := 189) (pc := 109) (zd_eq zk189 (by decide +kernel : decode cX7_drift 109 = .ok (.aload_n 0, 1)))) <|
  zcons (a := (110, zi_k (.int 124) 112)) (zs_bipush (M := 189) (pc := 110) (zd_eq zk189 (by decide +kernel : decode cX7_drift 110 = .ok (.bipush 124, 2))) (by decide)) <|
  zcons (a := (112, zi_cv 142 1 7 115 1)) (zs_cv (M := 189) (pc := 112) (M' := 142) (k := 1) (kd := 1) (ci := 7) (q := (RX7, TX7, 26)) (zd_eq zk189 (by decide +kernel : decode cX7_drift 112 = .ok (.invokevirtual 144, 3))) zWd142 (zl_m zo189 zy142 zw_941) (zl_i zy142 zw_943) (zl_e zy142 zw_29) (by decide) rfl (by rw [zo142])) <|
  zcons (a := (115, zi_go 124)) (zs_goto (M := 189) (pc := 115) (zd_eq zk189 (by decide +kernel : decode cX7_drift 115 = .ok (.goto 9, 3))) (by decide)) <|
  zcons (a := (118, zi_al 0 119)) (zs_al_n (M := 189) (pc := 118) (zd_eq zk189 (by decide +kernel : decode cX7_drift 118 = .ok (.aload_n 0, 1)))) <|
  zcons (a := (119, zi_k (.int 124) 121)) (zs_bipush (M := 189) (pc := 119) (zd_eq zk189 (by decide +kernel : decode cX7_drift 119 = .ok (.bipush 124, 2))) (by decide)) <|
  zcons (a := (121, zi_cv 145 1 7 124 1)) (zs_cv (M := 189) (pc := 121) (M' := 145) (k := 1) (kd := 1) (ci := 7) (q := (RX7, TX7, 26)) (zd_eq zk189 (by decide +kernel : decode cX7_drift 121 = .ok (.invokevirtual 147, 3))) zWd145 (zl_m zo189 zy145 zw_945) (zl_i zy145 zw_947) (zl_e zy145 zw_30) (by decide) rfl (by rw [zo145])) <|
  zcons (a := (124, zi_ri)) (zs_ri (M := 189) (pc := 124) (zd_eq zk189 (by decide +kernel : decode cX7_drift 124 = .ok (.ireturn, 1))) rfl) <| znil
theorem zS189 : ∀ pc, zm_Snd 189 pc (zm_lk2 zm_c189 pc) := zlk2 (zcons2 zS189_0 (zcons2 zS189_1 (zcons2 zS189_2 (znil2))))
theorem zS190_0 : ∀ q ∈ zm_c190_0, zm_Snd 190 q.1 q.2 :=
  zcons (a := (0, zi_il 1 1)) (zs_il_n (M := 190) (pc := 0) (zd_eq zk190 (by decide +kernel : decode cX7_keep 0 = .ok (.iload_n 1, 1)))) <|
  zcons (a := (1, zi_i2l 2)) (zs_i2l (M := 190) (pc := 1) (zd_eq zk190 (by decide +kernel : decode cX7_keep 1 = .ok (.i2l, 1)))) <|
  zcons (a := (2, zi_k (.long 0) 3)) (zs_lconst (M := 190) (pc := 2) (zd_eq zk190 (by decide +kernel : decode cX7_keep 2 = .ok (.lconst 0, 1))) (by decide)) <|
  zcons (a := (3, zi_k (.long 1) 4)) (zs_lconst (M := 190) (pc := 3) (zd_eq zk190 (by decide +kernel : decode cX7_keep 3 = .ok (.lconst 1, 1))) (by decide)) <|
  zcons (a := (4, zi_cs 123 3 7 1)) (zs_cs (M := 190) (pc := 4) (M' := 123) (k := 3) (kd := 1) (zd_eq zk190 (by decide +kernel : decode cX7_keep 4 = .ok (.invokestatic 49, 3))) zWd123 (zl_m zo190 zy123 zw_880) (zl_s zy123 zw_881)) <|
  zcons (a := (7, zi_b1 (fun x => ¬ x = 0) 12 10)) (zs_ifne (M := 190) (pc := 7) (zd_eq zk190 (by decide +kernel : decode cX7_keep 7 = .ok (.ifCond .ne 5, 3))) (by decide)) <|
  zcons (a := (10, zi_k (.int (-1)) 11)) (zs_iconst (M := 190) (pc := 10) (zd_eq zk190 (by decide +kernel : decode cX7_keep 10 = .ok (.iconst (-1), 1))) (by decide)) <|
  zcons (a := (11, zi_ri)) (zs_ri (M := 190) (pc := 11) (zd_eq zk190 (by decide +kernel : decode cX7_keep 11 = .ok (.ireturn, 1))) rfl) <|
  zcons (a := (12, zi_al 0 13)) (zs_al_n (M := 190) (pc := 12) (zd_eq zk190 (by decide +kernel : decode cX7_keep 12 = .ok (.aload_n 0, 1)))) <|
  zcons (a := (13, zi_k (.int 0) 14)) (zs_iconst (M := 190) (pc := 13) (zd_eq zk190 (by decide +kernel : decode cX7_keep 13 = .ok (.iconst 0, 1))) (by decide)) <|
  zcons (a := (14, zi_k (.int 31) 16)) (zs_bipush (M := 190) (pc := 14) (zd_eq zk190 (by decide +kernel : decode cX7_keep 14 = .ok (.bipush 31, 2))) (by decide)) <|
  zcons (a := (16, zi_il 1 17)) (zs_il_n (M := 190) (pc := 16) (zd_eq zk190 (by decide +kernel : decode cX7_keep 16 = .ok (.iload_n 1, 1)))) <|
  zcons (a := (17, zi_k (.int 1) 18)) (zs_iconst (M := 190) (pc := 17) (zd_eq zk190 (by decide +kernel : decode cX7_keep 17 = .ok (.iconst 1, 1))) (by decide)) <|
  zcons (a := (18, zi_bin (· + ·) 19)) (zs_iadd (M := 190) (pc := 18) (zd_eq zk190 (by decide +kernel : decode cX7_keep 18 = .ok (.iadd, 1)))) <|
  zcons (a := (19, zi_bin (· * ·) 20)) (zs_imul (M := 190) (pc := 19) (zd_eq zk190 (by decide +kernel : decode cX7_keep 19 = .ok (.imul, 1)))) <|
  zcons (a := (20, zi_cv 160 2 7 23 0)) (zs_cv (M := 190) (pc := 20) (M' := 160) (k := 2) (kd := 0) (ci := 7) (q := (RX7, TX7, 26)) (zd_eq zk190 (by decide +kernel : decode cX7_keep 20 = .ok (.invokevirtual 182, 3))) zWd160 (zl_m zo190 zy160 zw_1043) (zl_i zy160 zw_1045) (zl_e zy160 zw_42) (by decide) rfl (by rw [zo160])) <|
  zcons (a := (23, zi_al 0 24)) (zs_al_n (M := 190) (pc := 23) (zd_eq zk190 (by decide +kernel : decode cX7_keep 23 = .ok (.aload_n 0, 1)))) <|
  zcons (a := (24, zi_gr 7 21 27)) (zs_gr (M := 190) (pc := 24) (n := 0) (ci := 7) (k := 21) (C := RX7) (T := TX7) (N := 26) (zd_eq zk190 (by decide +kernel : decode cX7_keep 24 = .ok (.getfield 34, 3))) rfl (by decide) (by decide) zin_7 (zl_f zo190 zw_817)) <|
  zcons (a := (27, zi_il 1 28)) (zs_il_n (M := 190) (pc := 27) (zd_eq zk190 (by decide +kernel : decode cX7_keep 27 = .ok (.iload_n 1, 1)))) <|
  zcons (a := (28, zi_ald 2 29)) (zs_zald (M := 190) (pc := 28) (zd_eq zk190 (by decide +kernel : decode cX7_keep 28 = .ok (.baload, 1)))) <|
  zcons (a := (29, zi_b1 (fun x => x = 0) 36 32)) (zs_ifeq (M := 190) (pc := 29) (zd_eq zk190 (by decide +kernel : decode cX7_keep 29 = .ok (.ifCond .eq 7, 3))) (by decide)) <|
  zcons (a := (32, zi_k (.int 1) 33)) (zs_iconst (M := 190) (pc := 32) (zd_eq zk190 (by decide +kernel : decode cX7_keep 32 = .ok (.iconst 1, 1))) (by decide)) <|
  zcons (a := (33, zi_go 37)) (zs_goto (M := 190) (pc := 33) (zd_eq zk190 (by decide +kernel : decode cX7_keep 33 = .ok (.goto 4, 3))) (by decide)) <|
  zcons (a := (36, zi_k (.int 0) 37)) (zs_iconst (M := 190) (pc := 36) (zd_eq zk190 (by decide +kernel : decode cX7_keep 36 = .ok (.iconst 0, 1))) (by decide)) <| znil
theorem zS190_1 : ∀ q ∈ zm_c190_1, zm_Snd 190 q.1 q.2 :=
  zcons (a := (37, zi_is 2 38)) (zs_is_n (M := 190) (pc := 37) (zd_eq zk190 (by decide +kernel : decode cX7_keep 37 = .ok (.istore_n 2, 1))) (by decide +kernel) (by decide +kernel)) <|
  zcons (a := (38, zi_al 0 39)) (zs_al_n (M := 190) (pc := 38) (zd_eq zk190 (by decide +kernel : decode cX7_keep 38 = .ok (.aload_n 0, 1)))) <|
  zcons (a := (39, zi_gr 7 21 42)) (zs_gr (M := 190) (pc := 39) (n := 0) (ci := 7) (k := 21) (C := RX7) (T := TX7) (N := 26) (zd_eq zk190 (by decide +kernel : decode cX7_keep 39 = .ok (.getfield 34, 3))) rfl (by decide) (by decide) zin_7 (zl_f zo190 zw_817)) <|
  zcons (a := (42, zi_il 1 43)) (zs_il_n (M := 190) (pc := 42) (zd_eq zk190 (by decide +kernel : decode cX7_keep 42 = .ok (.iload_n 1, 1)))) <|
  zcons (a := (43, zi_k (.int 1) 44)) (zs_iconst (M := 190) (pc := 43) (zd_eq zk190 (by decide +kernel : decode cX7_keep 43 = .ok (.iconst 1, 1))) (by decide)) <|
  zcons (a := (44, zi_ast 2 (vp_nar .boolean) 45)) (zs_zast (M := 190) (pc := 44) (zd_eq zk190 (by decide +kernel : decode cX7_keep 44 = .ok (.bastore, 1)))) <|
  zcons (a := (45, zi_il 2 46)) (zs_il_n (M := 190) (pc := 45) (zd_eq zk190 (by decide +kernel : decode cX7_keep 45 = .ok (.iload_n 2, 1)))) <|
  zcons (a := (46, zi_ri)) (zs_ri (M := 190) (pc := 46) (zd_eq zk190 (by decide +kernel : decode cX7_keep 46 = .ok (.ireturn, 1))) rfl) <| znil
theorem zS190 : ∀ pc, zm_Snd 190 pc (zm_lk2 zm_c190 pc) := zlk2 (zcons2 zS190_0 (zcons2 zS190_1 (znil2)))
theorem zS191_0 : ∀ q ∈ zm_c191_0, zm_Snd 191 q.1 q.2 :=
  zcons (a := (0, zi_il 1 1)) (zs_il_n (M := 191) (pc := 0) (zd_eq zk191 (by decide +kernel : decode cX7_back 0 = .ok (.iload_n 1, 1)))) <|
  zcons (a := (1, zi_i2l 2)) (zs_i2l (M := 191) (pc := 1) (zd_eq zk191 (by decide +kernel : decode cX7_back 1 = .ok (.i2l, 1)))) <|
  zcons (a := (2, zi_k (.long 0) 3)) (zs_lconst (M := 191) (pc := 2) (zd_eq zk191 (by decide +kernel : decode cX7_back 2 = .ok (.lconst 0, 1))) (by decide)) <|
  zcons (a := (3, zi_k (.long 1) 4)) (zs_lconst (M := 191) (pc := 3) (zd_eq zk191 (by decide +kernel : decode cX7_back 3 = .ok (.lconst 1, 1))) (by decide)) <|
  zcons (a := (4, zi_cs 123 3 7 1)) (zs_cs (M := 191) (pc := 4) (M' := 123) (k := 3) (kd := 1) (zd_eq zk191 (by decide +kernel : decode cX7_back 4 = .ok (.invokestatic 49, 3))) zWd123 (zl_m zo191 zy123 zw_880) (zl_s zy123 zw_881)) <|
  zcons (a := (7, zi_b1 (fun x => ¬ x = 0) 12 10)) (zs_ifne (M := 191) (pc := 7) (zd_eq zk191 (by decide +kernel : decode cX7_back 7 = .ok (.ifCond .ne 5, 3))) (by decide)) <|
  zcons (a := (10, zi_k (.int (-1)) 11)) (zs_iconst (M := 191) (pc := 10) (zd_eq zk191 (by decide +kernel : decode cX7_back 10 = .ok (.iconst (-1), 1))) (by decide)) <|
  zcons (a := (11, zi_ri)) (zs_ri (M := 191) (pc := 11) (zd_eq zk191 (by decide +kernel : decode cX7_back 11 = .ok (.ireturn, 1))) rfl) <|
  zcons (a := (12, zi_al 0 13)) (zs_al_n (M := 191) (pc := 12) (zd_eq zk191 (by decide +kernel : decode cX7_back 12 = .ok (.aload_n 0, 1)))) <|
  zcons (a := (13, zi_gr 7 21 16)) (zs_gr (M := 191) (pc := 13) (n := 0) (ci := 7) (k := 21) (C := RX7) (T := TX7) (N := 26) (zd_eq zk191 (by decide +kernel : decode cX7_back 13 = .ok (.getfield 34, 3))) rfl (by decide) (by decide) zin_7 (zl_f zo191 zw_817)) <|
  zcons (a := (16, zi_il 1 17)) (zs_il_n (M := 191) (pc := 16) (zd_eq zk191 (by decide +kernel : decode cX7_back 16 = .ok (.iload_n 1, 1)))) <|
  zcons (a := (17, zi_ald 2 18)) (zs_zald (M := 191) (pc := 17) (zd_eq zk191 (by decide +kernel : decode cX7_back 17 = .ok (.baload, 1)))) <|
  zcons (a := (18, zi_b1 (fun x => ¬ x = 0) 24 21)) (zs_ifne (M := 191) (pc := 18) (zd_eq zk191 (by decide +kernel : decode cX7_back 18 = .ok (.ifCond .ne 6, 3))) (by decide)) <|
  zcons (a := (21, zi_k (.int (-2)) 23)) (zs_bipush (M := 191) (pc := 21) (zd_eq zk191 (by decide +kernel : decode cX7_back 21 = .ok (.bipush (-2), 2))) (by decide)) <|
  zcons (a := (23, zi_ri)) (zs_ri (M := 191) (pc := 23) (zd_eq zk191 (by decide +kernel : decode cX7_back 23 = .ok (.ireturn, 1))) rfl) <|
  zcons (a := (24, zi_al 0 25)) (zs_al_n (M := 191) (pc := 24) (zd_eq zk191 (by decide +kernel : decode cX7_back 24 = .ok (.aload_n 0, 1)))) <|
  zcons (a := (25, zi_k (.int 31) 27)) (zs_bipush (M := 191) (pc := 25) (zd_eq zk191 (by decide +kernel : decode cX7_back 25 = .ok (.bipush 31, 2))) (by decide)) <|
  zcons (a := (27, zi_il 1 28)) (zs_il_n (M := 191) (pc := 27) (zd_eq zk191 (by decide +kernel : decode cX7_back 27 = .ok (.iload_n 1, 1)))) <|
  zcons (a := (28, zi_k (.int 1) 29)) (zs_iconst (M := 191) (pc := 28) (zd_eq zk191 (by decide +kernel : decode cX7_back 28 = .ok (.iconst 1, 1))) (by decide)) <|
  zcons (a := (29, zi_bin (· + ·) 30)) (zs_iadd (M := 191) (pc := 29) (zd_eq zk191 (by decide +kernel : decode cX7_back 29 = .ok (.iadd, 1)))) <|
  zcons (a := (30, zi_bin (· * ·) 31)) (zs_imul (M := 191) (pc := 30) (zd_eq zk191 (by decide +kernel : decode cX7_back 30 = .ok (.imul, 1)))) <|
  zcons (a := (31, zi_k (.int 0) 32)) (zs_iconst (M := 191) (pc := 31) (zd_eq zk191 (by decide +kernel : decode cX7_back 31 = .ok (.iconst 0, 1))) (by decide)) <|
  zcons (a := (32, zi_cv 160 2 7 35 0)) (zs_cv (M := 191) (pc := 32) (M' := 160) (k := 2) (kd := 0) (ci := 7) (q := (RX7, TX7, 26)) (zd_eq zk191 (by decide +kernel : decode cX7_back 32 = .ok (.invokevirtual 182, 3))) zWd160 (zl_m zo191 zy160 zw_1043) (zl_i zy160 zw_1045) (zl_e zy160 zw_42) (by decide) rfl (by rw [zo160])) <|
  zcons (a := (35, zi_al 0 36)) (zs_al_n (M := 191) (pc := 35) (zd_eq zk191 (by decide +kernel : decode cX7_back 35 = .ok (.aload_n 0, 1)))) <| znil
theorem zS191_1 : ∀ q ∈ zm_c191_1, zm_Snd 191 q.1 q.2 :=
  zcons (a := (36, zi_gr 7 0 39)) (zs_gr (M := 191) (pc := 36) (n := 0) (ci := 7) (k := 0) (C := RX7) (T := TX7) (N := 26) (zd_eq zk191 (by decide +kernel : decode cX7_back 36 = .ok (.getfield 7, 3))) rfl (by decide) (by decide) zin_7 (zl_f zo191 zw_796)) <|
  zcons (a := (39, zi_k (.int 30) 41)) (zs_bipush (M := 191) (pc := 39) (zd_eq zk191 (by decide +kernel : decode cX7_back 39 = .ok (.bipush 30, 2))) (by decide)) <|
  zcons (a := (41, zi_ald 0 42)) (zs_iald (M := 191) (pc := 41) (zd_eq zk191 (by decide +kernel : decode cX7_back 41 = .ok (.iaload, 1)))) <|
  zcons (a := (42, zi_ri)) (zs_ri (M := 191) (pc := 42) (zd_eq zk191 (by decide +kernel : decode cX7_back 42 = .ok (.ireturn, 1))) rfl) <| znil
theorem zS191 : ∀ pc, zm_Snd 191 pc (zm_lk2 zm_c191 pc) := zlk2 (zcons2 zS191_0 (zcons2 zS191_1 (znil2)))
theorem zS192_0 : ∀ q ∈ zm_c192_0, zm_Snd 192 q.1 q.2 :=
  zcons (a := (0, zi_il 1 1)) (zs_il_n (M := 192) (pc := 0) (zd_eq zk192 (by decide +kernel : decode cX7_sheet 0 = .ok (.iload_n 1, 1)))) <|
  zcons (a := (1, zi_i2l 2)) (zs_i2l (M := 192) (pc := 1) (zd_eq zk192 (by decide +kernel : decode cX7_sheet 1 = .ok (.i2l, 1)))) <|
  zcons (a := (2, zi_k (.long 0) 3)) (zs_lconst (M := 192) (pc := 2) (zd_eq zk192 (by decide +kernel : decode cX7_sheet 2 = .ok (.lconst 0, 1))) (by decide)) <|
  zcons (a := (3, zi_k (.long 3) 6)) (zs_ldc2 (M := 192) (pc := 3) (zd_eq zk192 (by decide +kernel : decode cX7_sheet 3 = .ok (.ldc2_w 164, 3))) (zl_k2 zo192 zw_1000)) <|
  zcons (a := (6, zi_cs 123 3 9 1)) (zs_cs (M := 192) (pc := 6) (M' := 123) (k := 3) (kd := 1) (zd_eq zk192 (by decide +kernel : decode cX7_sheet 6 = .ok (.invokestatic 49, 3))) zWd123 (zl_m zo192 zy123 zw_880) (zl_s zy123 zw_881)) <|
  zcons (a := (9, zi_b1 (fun x => x = 0) 30 12)) (zs_ifeq (M := 192) (pc := 9) (zd_eq zk192 (by decide +kernel : decode cX7_sheet 9 = .ok (.ifCond .eq 21, 3))) (by decide)) <|
  zcons (a := (12, zi_il 2 13)) (zs_il_n (M := 192) (pc := 12) (zd_eq zk192 (by decide +kernel : decode cX7_sheet 12 = .ok (.iload_n 2, 1)))) <|
  zcons (a := (13, zi_i2l 14)) (zs_i2l (M := 192) (pc := 13) (zd_eq zk192 (by decide +kernel : decode cX7_sheet 13 = .ok (.i2l, 1)))) <|
  zcons (a := (14, zi_k (.long 0) 15)) (zs_lconst (M := 192) (pc := 14) (zd_eq zk192 (by decide +kernel : decode cX7_sheet 14 = .ok (.lconst 0, 1))) (by decide)) <|
  zcons (a := (15, zi_k (.long 2) 18)) (zs_ldc2 (M := 192) (pc := 15) (zd_eq zk192 (by decide +kernel : decode cX7_sheet 15 = .ok (.ldc2_w 154, 3))) (zl_k2 zo192 zw_981)) <|
  zcons (a := (18, zi_cs 123 3 21 1)) (zs_cs (M := 192) (pc := 18) (M' := 123) (k := 3) (kd := 1) (zd_eq zk192 (by decide +kernel : decode cX7_sheet 18 = .ok (.invokestatic 49, 3))) zWd123 (zl_m zo192 zy123 zw_880) (zl_s zy123 zw_881)) <|
  zcons (a := (21, zi_b1 (fun x => x = 0) 30 24)) (zs_ifeq (M := 192) (pc := 21) (zd_eq zk192 (by decide +kernel : decode cX7_sheet 21 = .ok (.ifCond .eq 9, 3))) (by decide)) <|
  zcons (a := (24, zi_il 3 25)) (zs_il_n (M := 192) (pc := 24) (zd_eq zk192 (by decide +kernel : decode cX7_sheet 24 = .ok (.iload_n 3, 1)))) <|
  zcons (a := (25, zi_k (.int 40) 27)) (zs_bipush (M := 192) (pc := 25) (zd_eq zk192 (by decide +kernel : decode cX7_sheet 25 = .ok (.bipush 40, 2))) (by decide)) <|
  zcons (a := (27, zi_b2 (fun x y => x ≤ y) 32 30)) (zs_icmple (M := 192) (pc := 27) (zd_eq zk192 (by decide +kernel : decode cX7_sheet 27 = .ok (.if_icmp .le 5, 3))) (by decide)) <|
  zcons (a := (30, zi_k (.int (-1)) 31)) (zs_iconst (M := 192) (pc := 30) (zd_eq zk192 (by decide +kernel : decode cX7_sheet 30 = .ok (.iconst (-1), 1))) (by decide)) <|
  zcons (a := (31, zi_ri)) (zs_ri (M := 192) (pc := 31) (zd_eq zk192 (by decide +kernel : decode cX7_sheet 31 = .ok (.ireturn, 1))) rfl) <|
  zcons (a := (32, zi_il 3 33)) (zs_il_n (M := 192) (pc := 32) (zd_eq zk192 (by decide +kernel : decode cX7_sheet 32 = .ok (.iload_n 3, 1)))) <|
  zcons (a := (33, zi_b1 (fun x => 0 ≤ x) 39 36)) (zs_ifge (M := 192) (pc := 33) (zd_eq zk192 (by decide +kernel : decode cX7_sheet 33 = .ok (.ifCond .ge 6, 3))) (by decide)) <|
  zcons (a := (36, zi_k (.int (-14)) 38)) (zs_bipush (M := 192) (pc := 36) (zd_eq zk192 (by decide +kernel : decode cX7_sheet 36 = .ok (.bipush (-14), 2))) (by decide)) <|
  zcons (a := (38, zi_ri)) (zs_ri (M := 192) (pc := 38) (zd_eq zk192 (by decide +kernel : decode cX7_sheet 38 = .ok (.ireturn, 1))) rfl) <|
  zcons (a := (39, zi_al 0 40)) (zs_al_n (M := 192) (pc := 39) (zd_eq zk192 (by decide +kernel : decode cX7_sheet 39 = .ok (.aload_n 0, 1)))) <|
  zcons (a := (40, zi_gr 7 22 43)) (zs_gr (M := 192) (pc := 40) (n := 0) (ci := 7) (k := 22) (C := RX7) (T := TX7) (N := 26) (zd_eq zk192 (by decide +kernel : decode cX7_sheet 40 = .ok (.getfield 38, 3))) rfl (by decide) (by decide) zin_7 (zl_f zo192 zw_818)) <|
  zcons (a := (43, zi_il 1 44)) (zs_il_n (M := 192) (pc := 43) (zd_eq zk192 (by decide +kernel : decode cX7_sheet 43 = .ok (.iload_n 1, 1)))) <| znil
theorem zS192_1 : ∀ q ∈ zm_c192_1, zm_Snd 192 q.1 q.2 :=
  zcons (a := (44, zi_il 2 45)) (zs_il_n (M := 192) (pc := 44) (zd_eq zk192 (by decide +kernel : decode cX7_sheet 44 = .ok (.iload_n 2, 1)))) <|
  zcons (a := (45, zi_ast 0 (fun x => x) 46)) (zs_iast (M := 192) (pc := 45) (zd_eq zk192 (by decide +kernel : decode cX7_sheet 45 = .ok (.iastore, 1)))) <|
  zcons (a := (46, zi_al 0 47)) (zs_al_n (M := 192) (pc := 46) (zd_eq zk192 (by decide +kernel : decode cX7_sheet 46 = .ok (.aload_n 0, 1)))) <|
  zcons (a := (47, zi_gr 7 23 50)) (zs_gr (M := 192) (pc := 47) (n := 0) (ci := 7) (k := 23) (C := RX7) (T := TX7) (N := 26) (zd_eq zk192 (by decide +kernel : decode cX7_sheet 47 = .ok (.getfield 41, 3))) rfl (by decide) (by decide) zin_7 (zl_f zo192 zw_819)) <|
  zcons (a := (50, zi_il 1 51)) (zs_il_n (M := 192) (pc := 50) (zd_eq zk192 (by decide +kernel : decode cX7_sheet 50 = .ok (.iload_n 1, 1)))) <|
  zcons (a := (51, zi_il 3 52)) (zs_il_n (M := 192) (pc := 51) (zd_eq zk192 (by decide +kernel : decode cX7_sheet 51 = .ok (.iload_n 3, 1)))) <|
  zcons (a := (52, zi_ast 0 (fun x => x) 53)) (zs_iast (M := 192) (pc := 52) (zd_eq zk192 (by decide +kernel : decode cX7_sheet 52 = .ok (.iastore, 1)))) <|
  zcons (a := (53, zi_k (.int 0) 54)) (zs_iconst (M := 192) (pc := 53) (zd_eq zk192 (by decide +kernel : decode cX7_sheet 53 = .ok (.iconst 0, 1))) (by decide)) <|
  zcons (a := (54, zi_is 4 56)) (zs_is_w (M := 192) (pc := 54) (zd_eq zk192 (by decide +kernel : decode cX7_sheet 54 = .ok (.istore 4, 2))) (by decide +kernel) (by decide +kernel)) <|
  zcons (a := (56, zi_il 4 58)) (zs_il_w (M := 192) (pc := 56) (zd_eq zk192 (by decide +kernel : decode cX7_sheet 56 = .ok (.iload 4, 2)))) <|
  zcons (a := (58, zi_k (.int 40) 60)) (zs_bipush (M := 192) (pc := 58) (zd_eq zk192 (by decide +kernel : decode cX7_sheet 58 = .ok (.bipush 40, 2))) (by decide)) <|
  zcons (a := (60, zi_b2 (fun x y => y ≤ x) 82 63)) (zs_icmpge (M := 192) (pc := 60) (zd_eq zk192 (by decide +kernel : decode cX7_sheet 60 = .ok (.if_icmp .ge 22, 3))) (by decide)) <|
  zcons (a := (63, zi_al 0 64)) (zs_al_n (M := 192) (pc := 63) (zd_eq zk192 (by decide +kernel : decode cX7_sheet 63 = .ok (.aload_n 0, 1)))) <|
  zcons (a := (64, zi_gr 7 24 67)) (zs_gr (M := 192) (pc := 64) (n := 0) (ci := 7) (k := 24) (C := RX7) (T := TX7) (N := 26) (zd_eq zk192 (by decide +kernel : decode cX7_sheet 64 = .ok (.getfield 44, 3))) rfl (by decide) (by decide) zin_7 (zl_f zo192 zw_820)) <|
  zcons (a := (67, zi_k (.int 40) 69)) (zs_bipush (M := 192) (pc := 67) (zd_eq zk192 (by decide +kernel : decode cX7_sheet 67 = .ok (.bipush 40, 2))) (by decide)) <|
  zcons (a := (69, zi_il 1 70)) (zs_il_n (M := 192) (pc := 69) (zd_eq zk192 (by decide +kernel : decode cX7_sheet 69 = .ok (.iload_n 1, 1)))) <|
  zcons (a := (70, zi_bin (· * ·) 71)) (zs_imul (M := 192) (pc := 70) (zd_eq zk192 (by decide +kernel : decode cX7_sheet 70 = .ok (.imul, 1)))) <|
  zcons (a := (71, zi_il 4 73)) (zs_il_w (M := 192) (pc := 71) (zd_eq zk192 (by decide +kernel : decode cX7_sheet 71 = .ok (.iload 4, 2)))) <|
  zcons (a := (73, zi_bin (· + ·) 74)) (zs_iadd (M := 192) (pc := 73) (zd_eq zk192 (by decide +kernel : decode cX7_sheet 73 = .ok (.iadd, 1)))) <|
  zcons (a := (74, zi_k (.int 0) 75)) (zs_iconst (M := 192) (pc := 74) (zd_eq zk192 (by decide +kernel : decode cX7_sheet 74 = .ok (.iconst 0, 1))) (by decide)) <|
  zcons (a := (75, zi_ast 0 (fun x => x) 76)) (zs_iast (M := 192) (pc := 75) (zd_eq zk192 (by decide +kernel : decode cX7_sheet 75 = .ok (.iastore, 1)))) <|
  zcons (a := (76, zi_inc 4 1 79)) (zs_inc (M := 192) (pc := 76) (zd_eq zk192 (by decide +kernel : decode cX7_sheet 76 = .ok (.iinc 4 1, 3))) (by decide) (by decide +kernel) (by decide +kernel)) <|
  zcons (a := (79, zi_go 56)) (zs_goto (M := 192) (pc := 79) (zd_eq zk192 (by decide +kernel : decode cX7_sheet 79 = .ok (.goto (-23), 3))) (by decide)) <|
  zcons (a := (82, zi_k (.int 1) 83)) (zs_iconst (M := 192) (pc := 82) (zd_eq zk192 (by decide +kernel : decode cX7_sheet 82 = .ok (.iconst 1, 1))) (by decide)) <| znil
theorem zS192_2 : ∀ q ∈ zm_c192_2, zm_Snd 192 q.1 q.2 :=
  zcons (a := (83, zi_ri)) (zs_ri (M := 192) (pc := 83) (zd_eq zk192 (by decide +kernel : decode cX7_sheet 83 = .ok (.ireturn, 1))) rfl) <| znil
theorem zS192 : ∀ pc, zm_Snd 192 pc (zm_lk2 zm_c192 pc) := zlk2 (zcons2 zS192_0 (zcons2 zS192_1 (zcons2 zS192_2 (znil2))))
theorem zS193_0 : ∀ q ∈ zm_c193_0, zm_Snd 193 q.1 q.2 :=
  zcons (a := (0, zi_il 1 1)) (zs_il_n (M := 193) (pc := 0) (zd_eq zk193 (by decide +kernel : decode cX7_lay 0 = .ok (.iload_n 1, 1)))) <|
  zcons (a := (1, zi_i2l 2)) (zs_i2l (M := 193) (pc := 1) (zd_eq zk193 (by decide +kernel : decode cX7_lay 1 = .ok (.i2l, 1)))) <|
  zcons (a := (2, zi_k (.long 0) 3)) (zs_lconst (M := 193) (pc := 2) (zd_eq zk193 (by decide +kernel : decode cX7_lay 2 = .ok (.lconst 0, 1))) (by decide)) <|
  zcons (a := (3, zi_k (.long 3) 6)) (zs_ldc2 (M := 193) (pc := 3) (zd_eq zk193 (by decide +kernel : decode cX7_lay 3 = .ok (.ldc2_w 164, 3))) (zl_k2 zo193 zw_1000)) <|
  zcons (a := (6, zi_cs 123 3 9 1)) (zs_cs (M := 193) (pc := 6) (M' := 123) (k := 3) (kd := 1) (zd_eq zk193 (by decide +kernel : decode cX7_lay 6 = .ok (.invokestatic 49, 3))) zWd123 (zl_m zo193 zy123 zw_880) (zl_s zy123 zw_881)) <|
  zcons (a := (9, zi_b1 (fun x => ¬ x = 0) 14 12)) (zs_ifne (M := 193) (pc := 9) (zd_eq zk193 (by decide +kernel : decode cX7_lay 9 = .ok (.ifCond .ne 5, 3))) (by decide)) <|
  zcons (a := (12, zi_k (.int (-1)) 13)) (zs_iconst (M := 193) (pc := 12) (zd_eq zk193 (by decide +kernel : decode cX7_lay 12 = .ok (.iconst (-1), 1))) (by decide)) <|
  zcons (a := (13, zi_ri)) (zs_ri (M := 193) (pc := 13) (zd_eq zk193 (by decide +kernel : decode cX7_lay 13 = .ok (.ireturn, 1))) rfl) <|
  zcons (a := (14, zi_al 0 15)) (zs_al_n (M := 193) (pc := 14) (zd_eq zk193 (by decide +kernel : decode cX7_lay 14 = .ok (.aload_n 0, 1)))) <|
  zcons (a := (15, zi_gr 7 22 18)) (zs_gr (M := 193) (pc := 15) (n := 0) (ci := 7) (k := 22) (C := RX7) (T := TX7) (N := 26) (zd_eq zk193 (by decide +kernel : decode cX7_lay 15 = .ok (.getfield 38, 3))) rfl (by decide) (by decide) zin_7 (zl_f zo193 zw_818)) <|
  zcons (a := (18, zi_il 1 19)) (zs_il_n (M := 193) (pc := 18) (zd_eq zk193 (by decide +kernel : decode cX7_lay 18 = .ok (.iload_n 1, 1)))) <|
  zcons (a := (19, zi_ald 0 20)) (zs_iald (M := 193) (pc := 19) (zd_eq zk193 (by decide +kernel : decode cX7_lay 19 = .ok (.iaload, 1)))) <|
  zcons (a := (20, zi_k (.int (-4)) 22)) (zs_bipush (M := 193) (pc := 20) (zd_eq zk193 (by decide +kernel : decode cX7_lay 20 = .ok (.bipush (-4), 2))) (by decide)) <|
  zcons (a := (22, zi_b2 (fun x y => ¬ x = y) 28 25)) (zs_icmpne (M := 193) (pc := 22) (zd_eq zk193 (by decide +kernel : decode cX7_lay 22 = .ok (.if_icmp .ne 6, 3))) (by decide)) <|
  zcons (a := (25, zi_k (.int (-11)) 27)) (zs_bipush (M := 193) (pc := 25) (zd_eq zk193 (by decide +kernel : decode cX7_lay 25 = .ok (.bipush (-11), 2))) (by decide)) <|
  zcons (a := (27, zi_ri)) (zs_ri (M := 193) (pc := 27) (zd_eq zk193 (by decide +kernel : decode cX7_lay 27 = .ok (.ireturn, 1))) rfl) <|
  zcons (a := (28, zi_il 2 29)) (zs_il_n (M := 193) (pc := 28) (zd_eq zk193 (by decide +kernel : decode cX7_lay 28 = .ok (.iload_n 2, 1)))) <|
  zcons (a := (29, zi_i2l 30)) (zs_i2l (M := 193) (pc := 29) (zd_eq zk193 (by decide +kernel : decode cX7_lay 29 = .ok (.i2l, 1)))) <|
  zcons (a := (30, zi_k (.long 0) 31)) (zs_lconst (M := 193) (pc := 30) (zd_eq zk193 (by decide +kernel : decode cX7_lay 30 = .ok (.lconst 0, 1))) (by decide)) <|
  zcons (a := (31, zi_al 0 32)) (zs_al_n (M := 193) (pc := 31) (zd_eq zk193 (by decide +kernel : decode cX7_lay 31 = .ok (.aload_n 0, 1)))) <|
  zcons (a := (32, zi_gr 7 23 35)) (zs_gr (M := 193) (pc := 32) (n := 0) (ci := 7) (k := 23) (C := RX7) (T := TX7) (N := 26) (zd_eq zk193 (by decide +kernel : decode cX7_lay 32 = .ok (.getfield 41, 3))) rfl (by decide) (by decide) zin_7 (zl_f zo193 zw_819)) <|
  zcons (a := (35, zi_il 1 36)) (zs_il_n (M := 193) (pc := 35) (zd_eq zk193 (by decide +kernel : decode cX7_lay 35 = .ok (.iload_n 1, 1)))) <|
  zcons (a := (36, zi_ald 0 37)) (zs_iald (M := 193) (pc := 36) (zd_eq zk193 (by decide +kernel : decode cX7_lay 36 = .ok (.iaload, 1)))) <|
  zcons (a := (37, zi_k (.int 1) 38)) (zs_iconst (M := 193) (pc := 37) (zd_eq zk193 (by decide +kernel : decode cX7_lay 37 = .ok (.iconst 1, 1))) (by decide)) <| znil
theorem zS193_1 : ∀ q ∈ zm_c193_1, zm_Snd 193 q.1 q.2 :=
  zcons (a := (38, zi_bin (· - ·) 39)) (zs_isub (M := 193) (pc := 38) (zd_eq zk193 (by decide +kernel : decode cX7_lay 38 = .ok (.isub, 1)))) <|
  zcons (a := (39, zi_i2l 40)) (zs_i2l (M := 193) (pc := 39) (zd_eq zk193 (by decide +kernel : decode cX7_lay 39 = .ok (.i2l, 1)))) <|
  zcons (a := (40, zi_cs 123 3 43 1)) (zs_cs (M := 193) (pc := 40) (M' := 123) (k := 3) (kd := 1) (zd_eq zk193 (by decide +kernel : decode cX7_lay 40 = .ok (.invokestatic 49, 3))) zWd123 (zl_m zo193 zy123 zw_880) (zl_s zy123 zw_881)) <|
  zcons (a := (43, zi_b1 (fun x => ¬ x = 0) 49 46)) (zs_ifne (M := 193) (pc := 43) (zd_eq zk193 (by decide +kernel : decode cX7_lay 43 = .ok (.ifCond .ne 6, 3))) (by decide)) <|
  zcons (a := (46, zi_k (.int (-12)) 48)) (zs_bipush (M := 193) (pc := 46) (zd_eq zk193 (by decide +kernel : decode cX7_lay 46 = .ok (.bipush (-12), 2))) (by decide)) <|
  zcons (a := (48, zi_ri)) (zs_ri (M := 193) (pc := 48) (zd_eq zk193 (by decide +kernel : decode cX7_lay 48 = .ok (.ireturn, 1))) rfl) <|
  zcons (a := (49, zi_al 0 50)) (zs_al_n (M := 193) (pc := 49) (zd_eq zk193 (by decide +kernel : decode cX7_lay 49 = .ok (.aload_n 0, 1)))) <|
  zcons (a := (50, zi_gr 7 24 53)) (zs_gr (M := 193) (pc := 50) (n := 0) (ci := 7) (k := 24) (C := RX7) (T := TX7) (N := 26) (zd_eq zk193 (by decide +kernel : decode cX7_lay 50 = .ok (.getfield 44, 3))) rfl (by decide) (by decide) zin_7 (zl_f zo193 zw_820)) <|
  zcons (a := (53, zi_k (.int 40) 55)) (zs_bipush (M := 193) (pc := 53) (zd_eq zk193 (by decide +kernel : decode cX7_lay 53 = .ok (.bipush 40, 2))) (by decide)) <|
  zcons (a := (55, zi_il 1 56)) (zs_il_n (M := 193) (pc := 55) (zd_eq zk193 (by decide +kernel : decode cX7_lay 55 = .ok (.iload_n 1, 1)))) <|
  zcons (a := (56, zi_bin (· * ·) 57)) (zs_imul (M := 193) (pc := 56) (zd_eq zk193 (by decide +kernel : decode cX7_lay 56 = .ok (.imul, 1)))) <|
  zcons (a := (57, zi_il 2 58)) (zs_il_n (M := 193) (pc := 57) (zd_eq zk193 (by decide +kernel : decode cX7_lay 57 = .ok (.iload_n 2, 1)))) <|
  zcons (a := (58, zi_bin (· + ·) 59)) (zs_iadd (M := 193) (pc := 58) (zd_eq zk193 (by decide +kernel : decode cX7_lay 58 = .ok (.iadd, 1)))) <|
  zcons (a := (59, zi_al 0 60)) (zs_al_n (M := 193) (pc := 59) (zd_eq zk193 (by decide +kernel : decode cX7_lay 59 = .ok (.aload_n 0, 1)))) <|
  zcons (a := (60, zi_gr 7 22 63)) (zs_gr (M := 193) (pc := 60) (n := 0) (ci := 7) (k := 22) (C := RX7) (T := TX7) (N := 26) (zd_eq zk193 (by decide +kernel : decode cX7_lay 60 = .ok (.getfield 38, 3))) rfl (by decide) (by decide) zin_7 (zl_f zo193 zw_818)) <|
  zcons (a := (63, zi_il 1 64)) (zs_il_n (M := 193) (pc := 63) (zd_eq zk193 (by decide +kernel : decode cX7_lay 63 = .ok (.iload_n 1, 1)))) <|
  zcons (a := (64, zi_ald 0 65)) (zs_iald (M := 193) (pc := 64) (zd_eq zk193 (by decide +kernel : decode cX7_lay 64 = .ok (.iaload, 1)))) <|
  zcons (a := (65, zi_b1 (fun x => ¬ x = 0) 78 68)) (zs_ifne (M := 193) (pc := 65) (zd_eq zk193 (by decide +kernel : decode cX7_lay 65 = .ok (.ifCond .ne 13, 3))) (by decide)) <|
  zcons (a := (68, zi_il 3 69)) (zs_il_n (M := 193) (pc := 68) (zd_eq zk193 (by decide +kernel : decode cX7_lay 68 = .ok (.iload_n 3, 1)))) <|
  zcons (a := (69, zi_k (.int 24) 71)) (zs_bipush (M := 193) (pc := 69) (zd_eq zk193 (by decide +kernel : decode cX7_lay 69 = .ok (.bipush 24, 2))) (by decide)) <|
  zcons (a := (71, zi_bin (fun x y => x <<< (y &&& 31)) 72)) (zs_ishl (M := 193) (pc := 71) (zd_eq zk193 (by decide +kernel : decode cX7_lay 71 = .ok (.ishl, 1)))) <|
  zcons (a := (72, zi_k (.int 24) 74)) (zs_bipush (M := 193) (pc := 72) (zd_eq zk193 (by decide +kernel : decode cX7_lay 72 = .ok (.bipush 24, 2))) (by decide)) <|
  zcons (a := (74, zi_bin (fun x y => x >>> (y &&& 31)) 75)) (zs_ishr (M := 193) (pc := 74) (zd_eq zk193 (by decide +kernel : decode cX7_lay 74 = .ok (.ishr, 1)))) <|
  zcons (a := (75, zi_go 99)) (zs_goto (M := 193) (pc := 75) (zd_eq zk193 (by decide +kernel : decode cX7_lay 75 = .ok (.goto 24, 3))) (by decide)) <| znil
theorem zS193_2 : ∀ q ∈ zm_c193_2, zm_Snd 193 q.1 q.2 :=
  zcons (a := (78, zi_al 0 79)) (zs_al_n (M := 193) (pc := 78) (zd_eq zk193 (by decide +kernel : decode cX7_lay 78 = .ok (.aload_n 0, 1)))) <|
  zcons (a := (79, zi_gr 7 22 82)) (zs_gr (M := 193) (pc := 79) (n := 0) (ci := 7) (k := 22) (C := RX7) (T := TX7) (N := 26) (zd_eq zk193 (by decide +kernel : decode cX7_lay 79 = .ok (.getfield 38, 3))) rfl (by decide) (by decide) zin_7 (zl_f zo193 zw_818)) <|
  zcons (a := (82, zi_il 1 83)) (zs_il_n (M := 193) (pc := 82) (zd_eq zk193 (by decide +kernel : decode cX7_lay 82 = .ok (.iload_n 1, 1)))) <|
  zcons (a := (83, zi_ald 0 84)) (zs_iald (M := 193) (pc := 83) (zd_eq zk193 (by decide +kernel : decode cX7_lay 83 = .ok (.iaload, 1)))) <|
  zcons (a := (84, zi_k (.int 1) 85)) (zs_iconst (M := 193) (pc := 84) (zd_eq zk193 (by decide +kernel : decode cX7_lay 84 = .ok (.iconst 1, 1))) (by decide)) <|
  zcons (a := (85, zi_b2 (fun x y => ¬ x = y) 98 88)) (zs_icmpne (M := 193) (pc := 85) (zd_eq zk193 (by decide +kernel : decode cX7_lay 85 = .ok (.if_icmp .ne 13, 3))) (by decide)) <|
  zcons (a := (88, zi_il 3 89)) (zs_il_n (M := 193) (pc := 88) (zd_eq zk193 (by decide +kernel : decode cX7_lay 88 = .ok (.iload_n 3, 1)))) <|
  zcons (a := (89, zi_k (.int 16) 91)) (zs_bipush (M := 193) (pc := 89) (zd_eq zk193 (by decide +kernel : decode cX7_lay 89 = .ok (.bipush 16, 2))) (by decide)) <|
  zcons (a := (91, zi_bin (fun x y => x <<< (y &&& 31)) 92)) (zs_ishl (M := 193) (pc := 91) (zd_eq zk193 (by decide +kernel : decode cX7_lay 91 = .ok (.ishl, 1)))) <|
  zcons (a := (92, zi_k (.int 16) 94)) (zs_bipush (M := 193) (pc := 92) (zd_eq zk193 (by decide +kernel : decode cX7_lay 92 = .ok (.bipush 16, 2))) (by decide)) <|
  zcons (a := (94, zi_bin (fun x y => x >>> (y &&& 31)) 95)) (zs_ishr (M := 193) (pc := 94) (zd_eq zk193 (by decide +kernel : decode cX7_lay 94 = .ok (.ishr, 1)))) <|
  zcons (a := (95, zi_go 99)) (zs_goto (M := 193) (pc := 95) (zd_eq zk193 (by decide +kernel : decode cX7_lay 95 = .ok (.goto 4, 3))) (by decide)) <|
  zcons (a := (98, zi_il 3 99)) (zs_il_n (M := 193) (pc := 98) (zd_eq zk193 (by decide +kernel : decode cX7_lay 98 = .ok (.iload_n 3, 1)))) <|
  zcons (a := (99, zi_ast 0 (fun x => x) 100)) (zs_iast (M := 193) (pc := 99) (zd_eq zk193 (by decide +kernel : decode cX7_lay 99 = .ok (.iastore, 1)))) <|
  zcons (a := (100, zi_k (.int 1) 101)) (zs_iconst (M := 193) (pc := 100) (zd_eq zk193 (by decide +kernel : decode cX7_lay 100 = .ok (.iconst 1, 1))) (by decide)) <|
  zcons (a := (101, zi_ri)) (zs_ri (M := 193) (pc := 101) (zd_eq zk193 (by decide +kernel : decode cX7_lay 101 = .ok (.ireturn, 1))) rfl) <| znil
theorem zS193 : ∀ pc, zm_Snd 193 pc (zm_lk2 zm_c193 pc) := zlk2 (zcons2 zS193_0 (zcons2 zS193_1 (zcons2 zS193_2 (znil2))))
theorem zS194_0 : ∀ q ∈ zm_c194_0, zm_Snd 194 q.1 q.2 :=
  zcons (a := (0, zi_il 1 1)) (zs_il_n (M := 194) (pc := 0) (zd_eq zk194 (by decide +kernel : decode cX7_read 0 = .ok (.iload_n 1, 1)))) <|
  zcons (a := (1, zi_i2l 2)) (zs_i2l (M := 194) (pc := 1) (zd_eq zk194 (by decide +kernel : decode cX7_read 1 = .ok (.i2l, 1)))) <|
  zcons (a := (2, zi_k (.long 0) 3)) (zs_lconst (M := 194) (pc := 2) (zd_eq zk194 (by decide +kernel : decode cX7_read 2 = .ok (.lconst 0, 1))) (by decide)) <|
  zcons (a := (3, zi_k (.long 3) 6)) (zs_ldc2 (M := 194) (pc := 3) (zd_eq zk194 (by decide +kernel : decode cX7_read 3 = .ok (.ldc2_w 164, 3))) (zl_k2 zo194 zw_1000)) <|
  zcons (a := (6, zi_cs 123 3 9 1)) (zs_cs (M := 194) (pc := 6) (M' := 123) (k := 3) (kd := 1) (zd_eq zk194 (by decide +kernel : decode cX7_read 6 = .ok (.invokestatic 49, 3))) zWd123 (zl_m zo194 zy123 zw_880) (zl_s zy123 zw_881)) <|
  zcons (a := (9, zi_b1 (fun x => x = 0) 37 12)) (zs_ifeq (M := 194) (pc := 9) (zd_eq zk194 (by decide +kernel : decode cX7_read 9 = .ok (.ifCond .eq 28, 3))) (by decide)) <|
  zcons (a := (12, zi_il 2 13)) (zs_il_n (M := 194) (pc := 12) (zd_eq zk194 (by decide +kernel : decode cX7_read 12 = .ok (.iload_n 2, 1)))) <|
  zcons (a := (13, zi_i2l 14)) (zs_i2l (M := 194) (pc := 13) (zd_eq zk194 (by decide +kernel : decode cX7_read 13 = .ok (.i2l, 1)))) <|
  zcons (a := (14, zi_k (.long 0) 15)) (zs_lconst (M := 194) (pc := 14) (zd_eq zk194 (by decide +kernel : decode cX7_read 14 = .ok (.lconst 0, 1))) (by decide)) <|
  zcons (a := (15, zi_k (.long 2) 18)) (zs_ldc2 (M := 194) (pc := 15) (zd_eq zk194 (by decide +kernel : decode cX7_read 15 = .ok (.ldc2_w 154, 3))) (zl_k2 zo194 zw_981)) <|
  zcons (a := (18, zi_cs 123 3 21 1)) (zs_cs (M := 194) (pc := 18) (M' := 123) (k := 3) (kd := 1) (zd_eq zk194 (by decide +kernel : decode cX7_read 18 = .ok (.invokestatic 49, 3))) zWd123 (zl_m zo194 zy123 zw_880) (zl_s zy123 zw_881)) <|
  zcons (a := (21, zi_b1 (fun x => x = 0) 37 24)) (zs_ifeq (M := 194) (pc := 21) (zd_eq zk194 (by decide +kernel : decode cX7_read 21 = .ok (.ifCond .eq 16, 3))) (by decide)) <|
  zcons (a := (24, zi_il 4 26)) (zs_il_w (M := 194) (pc := 24) (zd_eq zk194 (by decide +kernel : decode cX7_read 24 = .ok (.iload 4, 2)))) <|
  zcons (a := (26, zi_i2l 27)) (zs_i2l (M := 194) (pc := 26) (zd_eq zk194 (by decide +kernel : decode cX7_read 26 = .ok (.i2l, 1)))) <|
  zcons (a := (27, zi_k (.long 0) 28)) (zs_lconst (M := 194) (pc := 27) (zd_eq zk194 (by decide +kernel : decode cX7_read 27 = .ok (.lconst 0, 1))) (by decide)) <|
  zcons (a := (28, zi_k (.long 20) 31)) (zs_ldc2 (M := 194) (pc := 28) (zd_eq zk194 (by decide +kernel : decode cX7_read 28 = .ok (.ldc2_w 225, 3))) (zl_k2 zo194 zw_1177)) <|
  zcons (a := (31, zi_cs 123 3 34 1)) (zs_cs (M := 194) (pc := 31) (M' := 123) (k := 3) (kd := 1) (zd_eq zk194 (by decide +kernel : decode cX7_read 31 = .ok (.invokestatic 49, 3))) zWd123 (zl_m zo194 zy123 zw_880) (zl_s zy123 zw_881)) <|
  zcons (a := (34, zi_b1 (fun x => ¬ x = 0) 39 37)) (zs_ifne (M := 194) (pc := 34) (zd_eq zk194 (by decide +kernel : decode cX7_read 34 = .ok (.ifCond .ne 5, 3))) (by decide)) <|
  zcons (a := (37, zi_k (.int (-1)) 38)) (zs_iconst (M := 194) (pc := 37) (zd_eq zk194 (by decide +kernel : decode cX7_read 37 = .ok (.iconst (-1), 1))) (by decide)) <|
  zcons (a := (38, zi_ri)) (zs_ri (M := 194) (pc := 38) (zd_eq zk194 (by decide +kernel : decode cX7_read 38 = .ok (.ireturn, 1))) rfl) <|
  zcons (a := (39, zi_al 0 40)) (zs_al_n (M := 194) (pc := 39) (zd_eq zk194 (by decide +kernel : decode cX7_read 39 = .ok (.aload_n 0, 1)))) <|
  zcons (a := (40, zi_k (.int 0) 41)) (zs_iconst (M := 194) (pc := 40) (zd_eq zk194 (by decide +kernel : decode cX7_read 40 = .ok (.iconst 0, 1))) (by decide)) <|
  zcons (a := (41, zi_k (.int 93) 43)) (zs_bipush (M := 194) (pc := 41) (zd_eq zk194 (by decide +kernel : decode cX7_read 41 = .ok (.bipush 93, 2))) (by decide)) <|
  zcons (a := (43, zi_cv 160 2 7 46 0)) (zs_cv (M := 194) (pc := 43) (M' := 160) (k := 2) (kd := 0) (ci := 7) (q := (RX7, TX7, 26)) (zd_eq zk194 (by decide +kernel : decode cX7_read 43 = .ok (.invokevirtual 182, 3))) zWd160 (zl_m zo194 zy160 zw_1043) (zl_i zy160 zw_1045) (zl_e zy160 zw_42) (by decide) rfl (by rw [zo160])) <| znil
theorem zS194_1 : ∀ q ∈ zm_c194_1, zm_Snd 194 q.1 q.2 :=
  zcons (a := (46, zi_k (.int 0) 47)) (zs_iconst (M := 194) (pc := 46) (zd_eq zk194 (by decide +kernel : decode cX7_read 46 = .ok (.iconst 0, 1))) (by decide)) <|
  zcons (a := (47, zi_is 5 49)) (zs_is_w (M := 194) (pc := 47) (zd_eq zk194 (by decide +kernel : decode cX7_read 47 = .ok (.istore 5, 2))) (by decide +kernel) (by decide +kernel)) <|
  zcons (a := (49, zi_k (.int 0) 50)) (zs_iconst (M := 194) (pc := 49) (zd_eq zk194 (by decide +kernel : decode cX7_read 49 = .ok (.iconst 0, 1))) (by decide)) <|
  zcons (a := (50, zi_is 6 52)) (zs_is_w (M := 194) (pc := 50) (zd_eq zk194 (by decide +kernel : decode cX7_read 50 = .ok (.istore 6, 2))) (by decide +kernel) (by decide +kernel)) <|
  zcons (a := (52, zi_k (.int 0) 53)) (zs_iconst (M := 194) (pc := 52) (zd_eq zk194 (by decide +kernel : decode cX7_read 52 = .ok (.iconst 0, 1))) (by decide)) <|
  zcons (a := (53, zi_is 7 55)) (zs_is_w (M := 194) (pc := 53) (zd_eq zk194 (by decide +kernel : decode cX7_read 53 = .ok (.istore 7, 2))) (by decide +kernel) (by decide +kernel)) <|
  zcons (a := (55, zi_il 7 57)) (zs_il_w (M := 194) (pc := 55) (zd_eq zk194 (by decide +kernel : decode cX7_read 55 = .ok (.iload 7, 2)))) <|
  zcons (a := (57, zi_k (.int 2) 58)) (zs_iconst (M := 194) (pc := 57) (zd_eq zk194 (by decide +kernel : decode cX7_read 57 = .ok (.iconst 2, 1))) (by decide)) <|
  zcons (a := (58, zi_il 4 60)) (zs_il_w (M := 194) (pc := 58) (zd_eq zk194 (by decide +kernel : decode cX7_read 58 = .ok (.iload 4, 2)))) <|
  zcons (a := (60, zi_bin (· * ·) 61)) (zs_imul (M := 194) (pc := 60) (zd_eq zk194 (by decide +kernel : decode cX7_read 60 = .ok (.imul, 1)))) <|
  zcons (a := (61, zi_b2 (fun x y => y ≤ x) 196 64)) (zs_icmpge (M := 194) (pc := 61) (zd_eq zk194 (by decide +kernel : decode cX7_read 61 = .ok (.if_icmp .ge 135, 3))) (by decide)) <|
  zcons (a := (64, zi_il 5 66)) (zs_il_w (M := 194) (pc := 64) (zd_eq zk194 (by decide +kernel : decode cX7_read 64 = .ok (.iload 5, 2)))) <|
  zcons (a := (66, zi_b1 (fun x => ¬ x = 0) 196 69)) (zs_ifne (M := 194) (pc := 66) (zd_eq zk194 (by decide +kernel : decode cX7_read 66 = .ok (.ifCond .ne 130, 3))) (by decide)) <|
  zcons (a := (69, zi_al 0 70)) (zs_al_n (M := 194) (pc := 69) (zd_eq zk194 (by decide +kernel : decode cX7_read 69 = .ok (.aload_n 0, 1)))) <|
  zcons (a := (70, zi_gr 7 22 73)) (zs_gr (M := 194) (pc := 70) (n := 0) (ci := 7) (k := 22) (C := RX7) (T := TX7) (N := 26) (zd_eq zk194 (by decide +kernel : decode cX7_read 70 = .ok (.getfield 38, 3))) rfl (by decide) (by decide) zin_7 (zl_f zo194 zw_818)) <|
  zcons (a := (73, zi_il 1 74)) (zs_il_n (M := 194) (pc := 73) (zd_eq zk194 (by decide +kernel : decode cX7_read 73 = .ok (.iload_n 1, 1)))) <|
  zcons (a := (74, zi_ald 0 75)) (zs_iald (M := 194) (pc := 74) (zd_eq zk194 (by decide +kernel : decode cX7_read 74 = .ok (.iaload, 1)))) <|
  zcons (a := (75, zi_k (.int (-4)) 77)) (zs_bipush (M := 194) (pc := 75) (zd_eq zk194 (by decide +kernel : decode cX7_read 75 = .ok (.bipush (-4), 2))) (by decide)) <|
  zcons (a := (77, zi_b2 (fun x y => ¬ x = y) 84 80)) (zs_icmpne (M := 194) (pc := 77) (zd_eq zk194 (by decide +kernel : decode cX7_read 77 = .ok (.if_icmp .ne 7, 3))) (by decide)) <|
  zcons (a := (80, zi_k (.int 1) 81)) (zs_iconst (M := 194) (pc := 80) (zd_eq zk194 (by decide +kernel : decode cX7_read 80 = .ok (.iconst 1, 1))) (by decide)) <|
  zcons (a := (81, zi_go 125)) (zs_goto (M := 194) (pc := 81) (zd_eq zk194 (by decide +kernel : decode cX7_read 81 = .ok (.goto 44, 3))) (by decide)) <|
  zcons (a := (84, zi_al 0 85)) (zs_al_n (M := 194) (pc := 84) (zd_eq zk194 (by decide +kernel : decode cX7_read 84 = .ok (.aload_n 0, 1)))) <|
  zcons (a := (85, zi_gr 7 22 88)) (zs_gr (M := 194) (pc := 85) (n := 0) (ci := 7) (k := 22) (C := RX7) (T := TX7) (N := 26) (zd_eq zk194 (by decide +kernel : decode cX7_read 85 = .ok (.getfield 38, 3))) rfl (by decide) (by decide) zin_7 (zl_f zo194 zw_818)) <|
  zcons (a := (88, zi_il 1 89)) (zs_il_n (M := 194) (pc := 88) (zd_eq zk194 (by decide +kernel : decode cX7_read 88 = .ok (.iload_n 1, 1)))) <| znil
theorem zS194_2 : ∀ q ∈ zm_c194_2, zm_Snd 194 q.1 q.2 :=
  zcons (a := (89, zi_ald 0 90)) (zs_iald (M := 194) (pc := 89) (zd_eq zk194 (by decide +kernel : decode cX7_read 89 = .ok (.iaload, 1)))) <|
  zcons (a := (90, zi_il 2 91)) (zs_il_n (M := 194) (pc := 90) (zd_eq zk194 (by decide +kernel : decode cX7_read 90 = .ok (.iload_n 2, 1)))) <|
  zcons (a := (91, zi_b2 (fun x y => x = y) 98 94)) (zs_icmpeq (M := 194) (pc := 91) (zd_eq zk194 (by decide +kernel : decode cX7_read 91 = .ok (.if_icmp .eq 7, 3))) (by decide)) <|
  zcons (a := (94, zi_k (.int 3) 95)) (zs_iconst (M := 194) (pc := 94) (zd_eq zk194 (by decide +kernel : decode cX7_read 94 = .ok (.iconst 3, 1))) (by decide)) <|
  zcons (a := (95, zi_go 125)) (zs_goto (M := 194) (pc := 95) (zd_eq zk194 (by decide +kernel : decode cX7_read 95 = .ok (.goto 30, 3))) (by decide)) <|
  zcons (a := (98, zi_il 3 99)) (zs_il_n (M := 194) (pc := 98) (zd_eq zk194 (by decide +kernel : decode cX7_read 98 = .ok (.iload_n 3, 1)))) <|
  zcons (a := (99, zi_i2l 100)) (zs_i2l (M := 194) (pc := 99) (zd_eq zk194 (by decide +kernel : decode cX7_read 99 = .ok (.i2l, 1)))) <|
  zcons (a := (100, zi_il 7 102)) (zs_il_w (M := 194) (pc := 100) (zd_eq zk194 (by decide +kernel : decode cX7_read 100 = .ok (.iload 7, 2)))) <|
  zcons (a := (102, zi_i2l 103)) (zs_i2l (M := 194) (pc := 102) (zd_eq zk194 (by decide +kernel : decode cX7_read 102 = .ok (.i2l, 1)))) <|
  zcons (a := (103, zi_lbin (· + ·) 104)) (zs_ladd (M := 194) (pc := 103) (zd_eq zk194 (by decide +kernel : decode cX7_read 103 = .ok (.ladd, 1)))) <|
  zcons (a := (104, zi_k (.long 0) 105)) (zs_lconst (M := 194) (pc := 104) (zd_eq zk194 (by decide +kernel : decode cX7_read 104 = .ok (.lconst 0, 1))) (by decide)) <|
  zcons (a := (105, zi_al 0 106)) (zs_al_n (M := 194) (pc := 105) (zd_eq zk194 (by decide +kernel : decode cX7_read 105 = .ok (.aload_n 0, 1)))) <|
  zcons (a := (106, zi_gr 7 23 109)) (zs_gr (M := 194) (pc := 106) (n := 0) (ci := 7) (k := 23) (C := RX7) (T := TX7) (N := 26) (zd_eq zk194 (by decide +kernel : decode cX7_read 106 = .ok (.getfield 41, 3))) rfl (by decide) (by decide) zin_7 (zl_f zo194 zw_819)) <|
  zcons (a := (109, zi_il 1 110)) (zs_il_n (M := 194) (pc := 109) (zd_eq zk194 (by decide +kernel : decode cX7_read 109 = .ok (.iload_n 1, 1)))) <|
  zcons (a := (110, zi_ald 0 111)) (zs_iald (M := 194) (pc := 110) (zd_eq zk194 (by decide +kernel : decode cX7_read 110 = .ok (.iaload, 1)))) <|
  zcons (a := (111, zi_k (.int 1) 112)) (zs_iconst (M := 194) (pc := 111) (zd_eq zk194 (by decide +kernel : decode cX7_read 111 = .ok (.iconst 1, 1))) (by decide)) <|
  zcons (a := (112, zi_bin (· - ·) 113)) (zs_isub (M := 194) (pc := 112) (zd_eq zk194 (by decide +kernel : decode cX7_read 112 = .ok (.isub, 1)))) <|
  zcons (a := (113, zi_i2l 114)) (zs_i2l (M := 194) (pc := 113) (zd_eq zk194 (by decide +kernel : decode cX7_read 113 = .ok (.i2l, 1)))) <|
  zcons (a := (114, zi_cs 123 3 117 1)) (zs_cs (M := 194) (pc := 114) (M' := 123) (k := 3) (kd := 1) (zd_eq zk194 (by decide +kernel : decode cX7_read 114 = .ok (.invokestatic 49, 3))) zWd123 (zl_m zo194 zy123 zw_880) (zl_s zy123 zw_881)) <|
  zcons (a := (117, zi_b1 (fun x => ¬ x = 0) 124 120)) (zs_ifne (M := 194) (pc := 117) (zd_eq zk194 (by decide +kernel : decode cX7_read 117 = .ok (.ifCond .ne 7, 3))) (by decide)) <|
  zcons (a := (120, zi_k (.int 2) 121)) (zs_iconst (M := 194) (pc := 120) (zd_eq zk194 (by decide +kernel : decode cX7_read 120 = .ok (.iconst 2, 1))) (by decide)) <|
  zcons (a := (121, zi_go 125)) (zs_goto (M := 194) (pc := 121) (zd_eq zk194 (by decide +kernel : decode cX7_read 121 = .ok (.goto 4, 3))) (by decide)) <|
  zcons (a := (124, zi_k (.int 0) 125)) (zs_iconst (M := 194) (pc := 124) (zd_eq zk194 (by decide +kernel : decode cX7_read 124 = .ok (.iconst 0, 1))) (by decide)) <|
  zcons (a := (125, zi_is 5 127)) (zs_is_w (M := 194) (pc := 125) (zd_eq zk194 (by decide +kernel : decode cX7_read 125 = .ok (.istore 5, 2))) (by decide +kernel) (by decide +kernel)) <| znil
theorem zS194_3 : ∀ q ∈ zm_c194_3, zm_Snd 194 q.1 q.2 :=
  zcons (a := (127, zi_il 5 129)) (zs_il_w (M := 194) (pc := 127) (zd_eq zk194 (by decide +kernel : decode cX7_read 127 = .ok (.iload 5, 2)))) <|
  zcons (a := (129, zi_b1 (fun x => ¬ x = 0) 190 132)) (zs_ifne (M := 194) (pc := 129) (zd_eq zk194 (by decide +kernel : decode cX7_read 129 = .ok (.ifCond .ne 61, 3))) (by decide)) <|
  zcons (a := (132, zi_il 7 134)) (zs_il_w (M := 194) (pc := 132) (zd_eq zk194 (by decide +kernel : decode cX7_read 132 = .ok (.iload 7, 2)))) <|
  zcons (a := (134, zi_k (.int 2) 135)) (zs_iconst (M := 194) (pc := 134) (zd_eq zk194 (by decide +kernel : decode cX7_read 134 = .ok (.iconst 2, 1))) (by decide)) <|
  zcons (a := (135, zi_rem 136)) (zs_irem (M := 194) (pc := 135) (zd_eq zk194 (by decide +kernel : decode cX7_read 135 = .ok (.irem, 1)))) <|
  zcons (a := (136, zi_k (.int 1) 137)) (zs_iconst (M := 194) (pc := 136) (zd_eq zk194 (by decide +kernel : decode cX7_read 136 = .ok (.iconst 1, 1))) (by decide)) <|
  zcons (a := (137, zi_b2 (fun x y => ¬ x = y) 190 140)) (zs_icmpne (M := 194) (pc := 137) (zd_eq zk194 (by decide +kernel : decode cX7_read 137 = .ok (.if_icmp .ne 53, 3))) (by decide)) <|
  zcons (a := (140, zi_k (.int 40) 142)) (zs_bipush (M := 194) (pc := 140) (zd_eq zk194 (by decide +kernel : decode cX7_read 140 = .ok (.bipush 40, 2))) (by decide)) <|
  zcons (a := (142, zi_il 1 143)) (zs_il_n (M := 194) (pc := 142) (zd_eq zk194 (by decide +kernel : decode cX7_read 142 = .ok (.iload_n 1, 1)))) <|
  zcons (a := (143, zi_bin (· * ·) 144)) (zs_imul (M := 194) (pc := 143) (zd_eq zk194 (by decide +kernel : decode cX7_read 143 = .ok (.imul, 1)))) <|
  zcons (a := (144, zi_il 3 145)) (zs_il_n (M := 194) (pc := 144) (zd_eq zk194 (by decide +kernel : decode cX7_read 144 = .ok (.iload_n 3, 1)))) <|
  zcons (a := (145, zi_bin (· + ·) 146)) (zs_iadd (M := 194) (pc := 145) (zd_eq zk194 (by decide +kernel : decode cX7_read 145 = .ok (.iadd, 1)))) <|
  zcons (a := (146, zi_il 7 148)) (zs_il_w (M := 194) (pc := 146) (zd_eq zk194 (by decide +kernel : decode cX7_read 146 = .ok (.iload 7, 2)))) <|
  zcons (a := (148, zi_bin (· + ·) 149)) (zs_iadd (M := 194) (pc := 148) (zd_eq zk194 (by decide +kernel : decode cX7_read 148 = .ok (.iadd, 1)))) <|
  zcons (a := (149, zi_is 8 151)) (zs_is_w (M := 194) (pc := 149) (zd_eq zk194 (by decide +kernel : decode cX7_read 149 = .ok (.istore 8, 2))) (by decide +kernel) (by decide +kernel)) <|
  zcons (a := (151, zi_al 0 152)) (zs_al_n (M := 194) (pc := 151) (zd_eq zk194 (by decide +kernel : decode cX7_read 151 = .ok (.aload_n 0, 1)))) <|
  zcons (a := (152, zi_al 0 153)) (zs_al_n (M := 194) (pc := 152) (zd_eq zk194 (by decide +kernel : decode cX7_read 152 = .ok (.aload_n 0, 1)))) <|
  zcons (a := (153, zi_gr 7 24 156)) (zs_gr (M := 194) (pc := 153) (n := 0) (ci := 7) (k := 24) (C := RX7) (T := TX7) (N := 26) (zd_eq zk194 (by decide +kernel : decode cX7_read 153 = .ok (.getfield 44, 3))) rfl (by decide) (by decide) zin_7 (zl_f zo194 zw_820)) <|
  zcons (a := (156, zi_il 8 158)) (zs_il_w (M := 194) (pc := 156) (zd_eq zk194 (by decide +kernel : decode cX7_read 156 = .ok (.iload 8, 2)))) <|
  zcons (a := (158, zi_k (.int 1) 159)) (zs_iconst (M := 194) (pc := 158) (zd_eq zk194 (by decide +kernel : decode cX7_read 158 = .ok (.iconst 1, 1))) (by decide)) <|
  zcons (a := (159, zi_bin (· - ·) 160)) (zs_isub (M := 194) (pc := 159) (zd_eq zk194 (by decide +kernel : decode cX7_read 159 = .ok (.isub, 1)))) <|
  zcons (a := (160, zi_ald 0 161)) (zs_iald (M := 194) (pc := 160) (zd_eq zk194 (by decide +kernel : decode cX7_read 160 = .ok (.iaload, 1)))) <|
  zcons (a := (161, zi_al 0 162)) (zs_al_n (M := 194) (pc := 161) (zd_eq zk194 (by decide +kernel : decode cX7_read 161 = .ok (.aload_n 0, 1)))) <|
  zcons (a := (162, zi_gr 7 24 165)) (zs_gr (M := 194) (pc := 162) (n := 0) (ci := 7) (k := 24) (C := RX7) (T := TX7) (N := 26) (zd_eq zk194 (by decide +kernel : decode cX7_read 162 = .ok (.getfield 44, 3))) rfl (by decide) (by decide) zin_7 (zl_f zo194 zw_820)) <| znil
theorem zS194_4 : ∀ q ∈ zm_c194_4, zm_Snd 194 q.1 q.2 :=
  zcons (a := (165, zi_il 8 167)) (zs_il_w (M := 194) (pc := 165) (zd_eq zk194 (by decide +kernel : decode cX7_read 165 = .ok (.iload 8, 2)))) <|
  zcons (a := (167, zi_ald 0 168)) (zs_iald (M := 194) (pc := 167) (zd_eq zk194 (by decide +kernel : decode cX7_read 167 = .ok (.iaload, 1)))) <|
  zcons (a := (168, zi_cv 153 2 7 171 1)) (zs_cv (M := 194) (pc := 168) (M' := 153) (k := 2) (kd := 1) (ci := 7) (q := (RX7, TX7, 26)) (zd_eq zk194 (by decide +kernel : decode cX7_read 168 = .ok (.invokevirtual 168, 3))) zWd153 (zl_m zo194 zy153 zw_996) (zl_i zy153 zw_998) (zl_e zy153 zw_37) (by decide) rfl (by rw [zo153])) <|
  zcons (a := (171, zi_b1 (fun x => 0 ≤ x) 187 174)) (zs_ifge (M := 194) (pc := 171) (zd_eq zk194 (by decide +kernel : decode cX7_read 171 = .ok (.ifCond .ge 16, 3))) (by decide)) <|
  zcons (a := (174, zi_al 0 175)) (zs_al_n (M := 194) (pc := 174) (zd_eq zk194 (by decide +kernel : decode cX7_read 174 = .ok (.aload_n 0, 1)))) <|
  zcons (a := (175, zi_k (.int 93) 177)) (zs_bipush (M := 194) (pc := 175) (zd_eq zk194 (by decide +kernel : decode cX7_read 175 = .ok (.bipush 93, 2))) (by decide)) <|
  zcons (a := (177, zi_k (.int 0) 178)) (zs_iconst (M := 194) (pc := 177) (zd_eq zk194 (by decide +kernel : decode cX7_read 177 = .ok (.iconst 0, 1))) (by decide)) <|
  zcons (a := (178, zi_cv 160 2 7 181 0)) (zs_cv (M := 194) (pc := 178) (M' := 160) (k := 2) (kd := 0) (ci := 7) (q := (RX7, TX7, 26)) (zd_eq zk194 (by decide +kernel : decode cX7_read 178 = .ok (.invokevirtual 182, 3))) zWd160 (zl_m zo194 zy160 zw_1043) (zl_i zy160 zw_1045) (zl_e zy160 zw_42) (by decide) rfl (by rw [zo160])) <|
  zcons (a := (181, zi_k (.int (-20)) 183)) (zs_bipush (M := 194) (pc := 181) (zd_eq zk194 (by decide +kernel : decode cX7_read 181 = .ok (.bipush (-20), 2))) (by decide)) <|
  zcons (a := (183, zi_il 6 185)) (zs_il_w (M := 194) (pc := 183) (zd_eq zk194 (by decide +kernel : decode cX7_read 183 = .ok (.iload 6, 2)))) <|
  zcons (a := (185, zi_bin (· - ·) 186)) (zs_isub (M := 194) (pc := 185) (zd_eq zk194 (by decide +kernel : decode cX7_read 185 = .ok (.isub, 1)))) <|
  zcons (a := (186, zi_ri)) (zs_ri (M := 194) (pc := 186) (zd_eq zk194 (by decide +kernel : decode cX7_read 186 = .ok (.ireturn, 1))) rfl) <|
  zcons (a := (187, zi_inc 6 1 190)) (zs_inc (M := 194) (pc := 187) (zd_eq zk194 (by decide +kernel : decode cX7_read 187 = .ok (.iinc 6 1, 3))) (by decide) (by decide +kernel) (by decide +kernel)) <|
  zcons (a := (190, zi_inc 7 1 193)) (zs_inc (M := 194) (pc := 190) (zd_eq zk194 (by decide +kernel : decode cX7_read 190 = .ok (.iinc 7 1, 3))) (by decide) (by decide +kernel) (by decide +kernel)) <|
  zcons (a := (193, zi_go 55)) (zs_goto (M := 194) (pc := 193) (zd_eq zk194 (by decide +kernel : decode cX7_read 193 = .ok (.goto (-138), 3))) (by decide)) <|
  zcons (a := (196, zi_al 0 197)) (zs_al_n (M := 194) (pc := 196) (zd_eq zk194 (by decide +kernel : decode cX7_read 196 = .ok (.aload_n 0, 1)))) <|
  zcons (a := (197, zi_il 5 199)) (zs_il_w (M := 194) (pc := 197) (zd_eq zk194 (by decide +kernel : decode cX7_read 197 = .ok (.iload 5, 2)))) <|
  zcons (a := (199, zi_pf 7 25 202)) (zs_pf (M := 194) (pc := 199) (ci := 7) (k := 25) (C := RX7) (T := TX7) (N := 26) (ty0 := tyX7) (zd_eq zk194 (by decide +kernel : decode cX7_read 199 = .ok (.putfield 227, 3))) rfl (by decide) (by decide) zin_7 (zl_f zo194 zw_821) tyX7_ok nmX7 rfl (tyX7_ok 25 (by decide))) <|
  zcons (a := (202, zi_il 6 204)) (zs_il_w (M := 194) (pc := 202) (zd_eq zk194 (by decide +kernel : decode cX7_read 202 = .ok (.iload 6, 2)))) <|
  zcons (a := (204, zi_ri)) (zs_ri (M := 194) (pc := 204) (zd_eq zk194 (by decide +kernel : decode cX7_read 204 = .ok (.ireturn, 1))) rfl) <| znil
theorem zS194 : ∀ pc, zm_Snd 194 pc (zm_lk2 zm_c194 pc) := zlk2 (zcons2 zS194_0 (zcons2 zS194_1 (zcons2 zS194_2 (zcons2 zS194_3 (zcons2 zS194_4 (znil2))))))
theorem zS195_0 : ∀ q ∈ zm_c195_0, zm_Snd 195 q.1 q.2 :=
  zcons (a := (0, zi_al 0 1)) (zs_al_n (M := 195) (pc := 0) (zd_eq zk195 (by decide +kernel : decode cX7_torn 0 = .ok (.aload_n 0, 1)))) <|
  zcons (a := (1, zi_gi 7 25 4)) (zs_gi (M := 195) (pc := 1) (n := 0) (ci := 7) (k := 25) (C := RX7) (T := TX7) (N := 26) (zd_eq zk195 (by decide +kernel : decode cX7_torn 1 = .ok (.getfield 227, 3))) rfl (by decide) (by decide) zin_7 (zl_f zo195 zw_821)) <|
  zcons (a := (4, zi_ri)) (zs_ri (M := 195) (pc := 4) (zd_eq zk195 (by decide +kernel : decode cX7_torn 4 = .ok (.ireturn, 1))) rfl) <| znil
theorem zS195 : ∀ pc, zm_Snd 195 pc (zm_lk2 zm_c195 pc) := zlk2 (zcons2 zS195_0 (znil2))
theorem zS196_0 : ∀ q ∈ zm_c196_0, zm_Snd 196 q.1 q.2 :=
  zcons (a := (0, zi_k (.int 0) 1)) (zs_iconst (M := 196) (pc := 0) (zd_eq zk196 (by decide +kernel : decode cX7_count 0 = .ok (.iconst 0, 1))) (by decide)) <|
  zcons (a := (1, zi_is 2 2)) (zs_is_n (M := 196) (pc := 1) (zd_eq zk196 (by decide +kernel : decode cX7_count 1 = .ok (.istore_n 2, 1))) (by decide +kernel) (by decide +kernel)) <|
  zcons (a := (2, zi_k (.int 0) 3)) (zs_iconst (M := 196) (pc := 2) (zd_eq zk196 (by decide +kernel : decode cX7_count 2 = .ok (.iconst 0, 1))) (by decide)) <|
  zcons (a := (3, zi_is 3 4)) (zs_is_n (M := 196) (pc := 3) (zd_eq zk196 (by decide +kernel : decode cX7_count 3 = .ok (.istore_n 3, 1))) (by decide +kernel) (by decide +kernel)) <|
  zcons (a := (4, zi_k (.int 0) 5)) (zs_iconst (M := 196) (pc := 4) (zd_eq zk196 (by decide +kernel : decode cX7_count 4 = .ok (.iconst 0, 1))) (by decide)) <|
  zcons (a := (5, zi_is 4 7)) (zs_is_w (M := 196) (pc := 5) (zd_eq zk196 (by decide +kernel : decode cX7_count 5 = .ok (.istore 4, 2))) (by decide +kernel) (by decide +kernel)) <|
  zcons (a := (7, zi_il 4 9)) (zs_il_w (M := 196) (pc := 7) (zd_eq zk196 (by decide +kernel : decode cX7_count 7 = .ok (.iload 4, 2)))) <|
  zcons (a := (9, zi_k (.int 7) 11)) (zs_bipush (M := 196) (pc := 9) (zd_eq zk196 (by decide +kernel : decode cX7_count 9 = .ok (.bipush 7, 2))) (by decide)) <|
  zcons (a := (11, zi_b2 (fun x y => y ≤ x) 50 14)) (zs_icmpge (M := 196) (pc := 11) (zd_eq zk196 (by decide +kernel : decode cX7_count 11 = .ok (.if_icmp .ge 39, 3))) (by decide)) <|
  zcons (a := (14, zi_il 2 15)) (zs_il_n (M := 196) (pc := 14) (zd_eq zk196 (by decide +kernel : decode cX7_count 14 = .ok (.iload_n 2, 1)))) <|
  zcons (a := (15, zi_al 0 16)) (zs_al_n (M := 196) (pc := 15) (zd_eq zk196 (by decide +kernel : decode cX7_count 15 = .ok (.aload_n 0, 1)))) <|
  zcons (a := (16, zi_gr 7 0 19)) (zs_gr (M := 196) (pc := 16) (n := 0) (ci := 7) (k := 0) (C := RX7) (T := TX7) (N := 26) (zd_eq zk196 (by decide +kernel : decode cX7_count 16 = .ok (.getfield 7, 3))) rfl (by decide) (by decide) zin_7 (zl_f zo196 zw_796)) <|
  zcons (a := (19, zi_k (.int 16) 21)) (zs_bipush (M := 196) (pc := 19) (zd_eq zk196 (by decide +kernel : decode cX7_count 19 = .ok (.bipush 16, 2))) (by decide)) <|
  zcons (a := (21, zi_il 4 23)) (zs_il_w (M := 196) (pc := 21) (zd_eq zk196 (by decide +kernel : decode cX7_count 21 = .ok (.iload 4, 2)))) <|
  zcons (a := (23, zi_bin (· + ·) 24)) (zs_iadd (M := 196) (pc := 23) (zd_eq zk196 (by decide +kernel : decode cX7_count 23 = .ok (.iadd, 1)))) <|
  zcons (a := (24, zi_ald 0 25)) (zs_iald (M := 196) (pc := 24) (zd_eq zk196 (by decide +kernel : decode cX7_count 24 = .ok (.iaload, 1)))) <|
  zcons (a := (25, zi_k (.int 1) 26)) (zs_iconst (M := 196) (pc := 25) (zd_eq zk196 (by decide +kernel : decode cX7_count 25 = .ok (.iconst 1, 1))) (by decide)) <|
  zcons (a := (26, zi_bin (· + ·) 27)) (zs_iadd (M := 196) (pc := 26) (zd_eq zk196 (by decide +kernel : decode cX7_count 26 = .ok (.iadd, 1)))) <|
  zcons (a := (27, zi_bin (· + ·) 28)) (zs_iadd (M := 196) (pc := 27) (zd_eq zk196 (by decide +kernel : decode cX7_count 27 = .ok (.iadd, 1)))) <|
  zcons (a := (28, zi_is 2 29)) (zs_is_n (M := 196) (pc := 28) (zd_eq zk196 (by decide +kernel : decode cX7_count 28 = .ok (.istore_n 2, 1))) (by decide +kernel) (by decide +kernel)) <|
  zcons (a := (29, zi_il 3 30)) (zs_il_n (M := 196) (pc := 29) (zd_eq zk196 (by decide +kernel : decode cX7_count 29 = .ok (.iload_n 3, 1)))) <|
  zcons (a := (30, zi_al 0 31)) (zs_al_n (M := 196) (pc := 30) (zd_eq zk196 (by decide +kernel : decode cX7_count 30 = .ok (.aload_n 0, 1)))) <|
  zcons (a := (31, zi_gr 7 0 34)) (zs_gr (M := 196) (pc := 31) (n := 0) (ci := 7) (k := 0) (C := RX7) (T := TX7) (N := 26) (zd_eq zk196 (by decide +kernel : decode cX7_count 31 = .ok (.getfield 7, 3))) rfl (by decide) (by decide) zin_7 (zl_f zo196 zw_796)) <|
  zcons (a := (34, zi_k (.int 23) 36)) (zs_bipush (M := 196) (pc := 34) (zd_eq zk196 (by decide +kernel : decode cX7_count 34 = .ok (.bipush 23, 2))) (by decide)) <| znil
theorem zS196_1 : ∀ q ∈ zm_c196_1, zm_Snd 196 q.1 q.2 :=
  zcons (a := (36, zi_il 4 38)) (zs_il_w (M := 196) (pc := 36) (zd_eq zk196 (by decide +kernel : decode cX7_count 36 = .ok (.iload 4, 2)))) <|
  zcons (a := (38, zi_bin (· + ·) 39)) (zs_iadd (M := 196) (pc := 38) (zd_eq zk196 (by decide +kernel : decode cX7_count 38 = .ok (.iadd, 1)))) <|
  zcons (a := (39, zi_ald 0 40)) (zs_iald (M := 196) (pc := 39) (zd_eq zk196 (by decide +kernel : decode cX7_count 39 = .ok (.iaload, 1)))) <|
  zcons (a := (40, zi_k (.int 4) 41)) (zs_iconst (M := 196) (pc := 40) (zd_eq zk196 (by decide +kernel : decode cX7_count 40 = .ok (.iconst 4, 1))) (by decide)) <|
  zcons (a := (41, zi_bin (· + ·) 42)) (zs_iadd (M := 196) (pc := 41) (zd_eq zk196 (by decide +kernel : decode cX7_count 41 = .ok (.iadd, 1)))) <|
  zcons (a := (42, zi_bin (· + ·) 43)) (zs_iadd (M := 196) (pc := 42) (zd_eq zk196 (by decide +kernel : decode cX7_count 42 = .ok (.iadd, 1)))) <|
  zcons (a := (43, zi_is 3 44)) (zs_is_n (M := 196) (pc := 43) (zd_eq zk196 (by decide +kernel : decode cX7_count 43 = .ok (.istore_n 3, 1))) (by decide +kernel) (by decide +kernel)) <|
  zcons (a := (44, zi_inc 4 1 47)) (zs_inc (M := 196) (pc := 44) (zd_eq zk196 (by decide +kernel : decode cX7_count 44 = .ok (.iinc 4 1, 3))) (by decide) (by decide +kernel) (by decide +kernel)) <|
  zcons (a := (47, zi_go 7)) (zs_goto (M := 196) (pc := 47) (zd_eq zk196 (by decide +kernel : decode cX7_count 47 = .ok (.goto (-40), 3))) (by decide)) <|
  zcons (a := (50, zi_il 1 51)) (zs_il_n (M := 196) (pc := 50) (zd_eq zk196 (by decide +kernel : decode cX7_count 50 = .ok (.iload_n 1, 1)))) <|
  zcons (a := (51, zi_ts 0 5 [88, 93, 123, 128, 151, 153] 155)) (zs_ts (M := 196) (pc := 51) (zd_eq zk196 (by decide +kernel : decode cX7_count 51 = .ok (.tableswitch 104 0 5 #[37, 42, 72, 77, 100, 102], 37))) (by decide) (zts_dec (by decide +kernel))) <|
  zcons (a := (88, zi_al 0 89)) (zs_al_n (M := 196) (pc := 88) (zd_eq zk196 (by decide +kernel : decode cX7_count 88 = .ok (.aload_n 0, 1)))) <|
  zcons (a := (89, zi_gi 7 19 92)) (zs_gi (M := 196) (pc := 89) (n := 0) (ci := 7) (k := 19) (C := RX7) (T := TX7) (N := 26) (zd_eq zk196 (by decide +kernel : decode cX7_count 89 = .ok (.getfield 118, 3))) rfl (by decide) (by decide) zin_7 (zl_f zo196 zw_815)) <|
  zcons (a := (92, zi_ri)) (zs_ri (M := 196) (pc := 92) (zd_eq zk196 (by decide +kernel : decode cX7_count 92 = .ok (.ireturn, 1))) rfl) <|
  zcons (a := (93, zi_al 0 94)) (zs_al_n (M := 196) (pc := 93) (zd_eq zk196 (by decide +kernel : decode cX7_count 93 = .ok (.aload_n 0, 1)))) <|
  zcons (a := (94, zi_gr 7 21 97)) (zs_gr (M := 196) (pc := 94) (n := 0) (ci := 7) (k := 21) (C := RX7) (T := TX7) (N := 26) (zd_eq zk196 (by decide +kernel : decode cX7_count 94 = .ok (.getfield 34, 3))) rfl (by decide) (by decide) zin_7 (zl_f zo196 zw_817)) <|
  zcons (a := (97, zi_k (.int 0) 98)) (zs_iconst (M := 196) (pc := 97) (zd_eq zk196 (by decide +kernel : decode cX7_count 97 = .ok (.iconst 0, 1))) (by decide)) <|
  zcons (a := (98, zi_ald 2 99)) (zs_zald (M := 196) (pc := 98) (zd_eq zk196 (by decide +kernel : decode cX7_count 98 = .ok (.baload, 1)))) <|
  zcons (a := (99, zi_b1 (fun x => x = 0) 106 102)) (zs_ifeq (M := 196) (pc := 99) (zd_eq zk196 (by decide +kernel : decode cX7_count 99 = .ok (.ifCond .eq 7, 3))) (by decide)) <|
  zcons (a := (102, zi_k (.int 1) 103)) (zs_iconst (M := 196) (pc := 102) (zd_eq zk196 (by decide +kernel : decode cX7_count 102 = .ok (.iconst 1, 1))) (by decide)) <|
  zcons (a := (103, zi_go 107)) (zs_goto (M := 196) (pc := 103) (zd_eq zk196 (by decide +kernel : decode cX7_count 103 = .ok (.goto 4, 3))) (by decide)) <|
  zcons (a := (106, zi_k (.int 0) 107)) (zs_iconst (M := 196) (pc := 106) (zd_eq zk196 (by decide +kernel : decode cX7_count 106 = .ok (.iconst 0, 1))) (by decide)) <|
  zcons (a := (107, zi_al 0 108)) (zs_al_n (M := 196) (pc := 107) (zd_eq zk196 (by decide +kernel : decode cX7_count 107 = .ok (.aload_n 0, 1)))) <|
  zcons (a := (108, zi_gr 7 21 111)) (zs_gr (M := 196) (pc := 108) (n := 0) (ci := 7) (k := 21) (C := RX7) (T := TX7) (N := 26) (zd_eq zk196 (by decide +kernel : decode cX7_count 108 = .ok (.getfield 34, 3))) rfl (by decide) (by decide) zin_7 (zl_f zo196 zw_817)) <| znil
theorem zS196_2 : ∀ q ∈ zm_c196_2, zm_Snd 196 q.1 q.2 :=
  zcons (a := (111, zi_k (.int 1) 112)) (zs_iconst (M := 196) (pc := 111) (zd_eq zk196 (by decide +kernel : decode cX7_count 111 = .ok (.iconst 1, 1))) (by decide)) <|
  zcons (a := (112, zi_ald 2 113)) (zs_zald (M := 196) (pc := 112) (zd_eq zk196 (by decide +kernel : decode cX7_count 112 = .ok (.baload, 1)))) <|
  zcons (a := (113, zi_b1 (fun x => x = 0) 120 116)) (zs_ifeq (M := 196) (pc := 113) (zd_eq zk196 (by decide +kernel : decode cX7_count 113 = .ok (.ifCond .eq 7, 3))) (by decide)) <|
  zcons (a := (116, zi_k (.int 1) 117)) (zs_iconst (M := 196) (pc := 116) (zd_eq zk196 (by decide +kernel : decode cX7_count 116 = .ok (.iconst 1, 1))) (by decide)) <|
  zcons (a := (117, zi_go 121)) (zs_goto (M := 196) (pc := 117) (zd_eq zk196 (by decide +kernel : decode cX7_count 117 = .ok (.goto 4, 3))) (by decide)) <|
  zcons (a := (120, zi_k (.int 0) 121)) (zs_iconst (M := 196) (pc := 120) (zd_eq zk196 (by decide +kernel : decode cX7_count 120 = .ok (.iconst 0, 1))) (by decide)) <|
  zcons (a := (121, zi_bin (· + ·) 122)) (zs_iadd (M := 196) (pc := 121) (zd_eq zk196 (by decide +kernel : decode cX7_count 121 = .ok (.iadd, 1)))) <|
  zcons (a := (122, zi_ri)) (zs_ri (M := 196) (pc := 122) (zd_eq zk196 (by decide +kernel : decode cX7_count 122 = .ok (.ireturn, 1))) rfl) <|
  zcons (a := (123, zi_al 0 124)) (zs_al_n (M := 196) (pc := 123) (zd_eq zk196 (by decide +kernel : decode cX7_count 123 = .ok (.aload_n 0, 1)))) <|
  zcons (a := (124, zi_gi 7 4 127)) (zs_gi (M := 196) (pc := 124) (n := 0) (ci := 7) (k := 4) (C := RX7) (T := TX7) (N := 26) (zd_eq zk196 (by decide +kernel : decode cX7_count 124 = .ok (.getfield 53, 3))) rfl (by decide) (by decide) zin_7 (zl_f zo196 zw_800)) <|
  zcons (a := (127, zi_ri)) (zs_ri (M := 196) (pc := 127) (zd_eq zk196 (by decide +kernel : decode cX7_count 127 = .ok (.ireturn, 1))) rfl) <|
  zcons (a := (128, zi_al 0 129)) (zs_al_n (M := 196) (pc := 128) (zd_eq zk196 (by decide +kernel : decode cX7_count 128 = .ok (.aload_n 0, 1)))) <|
  zcons (a := (129, zi_gr 7 22 132)) (zs_gr (M := 196) (pc := 129) (n := 0) (ci := 7) (k := 22) (C := RX7) (T := TX7) (N := 26) (zd_eq zk196 (by decide +kernel : decode cX7_count 129 = .ok (.getfield 38, 3))) rfl (by decide) (by decide) zin_7 (zl_f zo196 zw_818)) <|
  zcons (a := (132, zi_k (.int 0) 133)) (zs_iconst (M := 196) (pc := 132) (zd_eq zk196 (by decide +kernel : decode cX7_count 132 = .ok (.iconst 0, 1))) (by decide)) <|
  zcons (a := (133, zi_ald 0 134)) (zs_iald (M := 196) (pc := 133) (zd_eq zk196 (by decide +kernel : decode cX7_count 133 = .ok (.iaload, 1)))) <|
  zcons (a := (134, zi_k (.int (-4)) 136)) (zs_bipush (M := 196) (pc := 134) (zd_eq zk196 (by decide +kernel : decode cX7_count 134 = .ok (.bipush (-4), 2))) (by decide)) <|
  zcons (a := (136, zi_b2 (fun x y => ¬ x = y) 144 139)) (zs_icmpne (M := 196) (pc := 136) (zd_eq zk196 (by decide +kernel : decode cX7_count 136 = .ok (.if_icmp .ne 8, 3))) (by decide)) <|
  zcons (a := (139, zi_k (.int (-4)) 141)) (zs_bipush (M := 196) (pc := 139) (zd_eq zk196 (by decide +kernel : decode cX7_count 139 = .ok (.bipush (-4), 2))) (by decide)) <|
  zcons (a := (141, zi_go 150)) (zs_goto (M := 196) (pc := 141) (zd_eq zk196 (by decide +kernel : decode cX7_count 141 = .ok (.goto 9, 3))) (by decide)) <|
  zcons (a := (144, zi_al 0 145)) (zs_al_n (M := 196) (pc := 144) (zd_eq zk196 (by decide +kernel : decode cX7_count 144 = .ok (.aload_n 0, 1)))) <|
  zcons (a := (145, zi_gr 7 23 148)) (zs_gr (M := 196) (pc := 145) (n := 0) (ci := 7) (k := 23) (C := RX7) (T := TX7) (N := 26) (zd_eq zk196 (by decide +kernel : decode cX7_count 145 = .ok (.getfield 41, 3))) rfl (by decide) (by decide) zin_7 (zl_f zo196 zw_819)) <|
  zcons (a := (148, zi_k (.int 0) 149)) (zs_iconst (M := 196) (pc := 148) (zd_eq zk196 (by decide +kernel : decode cX7_count 148 = .ok (.iconst 0, 1))) (by decide)) <|
  zcons (a := (149, zi_ald 0 150)) (zs_iald (M := 196) (pc := 149) (zd_eq zk196 (by decide +kernel : decode cX7_count 149 = .ok (.iaload, 1)))) <|
  zcons (a := (150, zi_ri)) (zs_ri (M := 196) (pc := 150) (zd_eq zk196 (by decide +kernel : decode cX7_count 150 = .ok (.ireturn, 1))) rfl) <| znil
theorem zS196_3 : ∀ q ∈ zm_c196_3, zm_Snd 196 q.1 q.2 :=
  zcons (a := (151, zi_il 2 152)) (zs_il_n (M := 196) (pc := 151) (zd_eq zk196 (by decide +kernel : decode cX7_count 151 = .ok (.iload_n 2, 1)))) <|
  zcons (a := (152, zi_ri)) (zs_ri (M := 196) (pc := 152) (zd_eq zk196 (by decide +kernel : decode cX7_count 152 = .ok (.ireturn, 1))) rfl) <|
  zcons (a := (153, zi_il 3 154)) (zs_il_n (M := 196) (pc := 153) (zd_eq zk196 (by decide +kernel : decode cX7_count 153 = .ok (.iload_n 3, 1)))) <|
  zcons (a := (154, zi_ri)) (zs_ri (M := 196) (pc := 154) (zd_eq zk196 (by decide +kernel : decode cX7_count 154 = .ok (.ireturn, 1))) rfl) <|
  zcons (a := (155, zi_k (.int (-1)) 156)) (zs_iconst (M := 196) (pc := 155) (zd_eq zk196 (by decide +kernel : decode cX7_count 155 = .ok (.iconst (-1), 1))) (by decide)) <|
  zcons (a := (156, zi_ri)) (zs_ri (M := 196) (pc := 156) (zd_eq zk196 (by decide +kernel : decode cX7_count 156 = .ok (.ireturn, 1))) rfl) <| znil
theorem zS196 : ∀ pc, zm_Snd 196 pc (zm_lk2 zm_c196 pc) := zlk2 (zcons2 zS196_0 (zcons2 zS196_1 (zcons2 zS196_2 (zcons2 zS196_3 (znil2)))))
