def zl_S (i : Nat) : List Value := [.ref 1000000, .ref 0, .ref 137, .int (nI i)]
/-- one call of the script is answered alike -/
def zl_G (pc i : Nat) (h : zm_H) : Prop := ∃ h' Y', zm_den 17 197 pc [.ref 1000000, .ref 0, .ref 137, .int (nI i)] [] h = zm_den 17 197 1512 [.ref 1000000, .ref 0, .ref 137, .int (nI i)] [] h' ∧ zk_K h' Y' ∧ zo_K h' Y' ∧ zm_Fr h h' 0 150
section ZT90
variable {h : zm_H} {Y : zy_T} {L i : Nat} {xs : Nat → Int32}
theorem zl_s0 {k : Nat} {f : Int32 → zm_O} (hk : i + k < L) (hL : L ≤ 320) : zq_sl (.inl (8, L, .inl xs)) (nI (i + k)) f = f (xs (i + k)) := by
  show (if zm_vin (nI (i + k)) L = true then f (xs (nI (i + k)).toNatClampNeg) else none) = _
  rw [if_pos (zm_vin_n hk (by omega)), nI_clamp (by omega)]
theorem zl_s1 {f : Int32 → zm_O} (hi : i + 5 ≤ L) (hL : L ≤ 320) : zq_sl (.inl (8, L, .inl xs)) (nI i + (1 : Int32)) f = f (xs (i + 1)) := by
  rw [show nI i + (1 : Int32) = nI (i + 1) from nI_add i 1]; exact zl_s0 (by omega) hL
theorem zl_s2 {f : Int32 → zm_O} (hi : i + 5 ≤ L) (hL : L ≤ 320) : zq_sl (.inl (8, L, .inl xs)) (nI i + (2 : Int32)) f = f (xs (i + 2)) := by
  rw [show nI i + (2 : Int32) = nI (i + 2) from nI_add i 2]; exact zl_s0 (by omega) hL
theorem zl_s3 {f : Int32 → zm_O} (hi : i + 5 ≤ L) (hL : L ≤ 320) : zq_sl (.inl (8, L, .inl xs)) (nI i + (3 : Int32)) f = f (xs (i + 3)) := by
  rw [show nI i + (3 : Int32) = nI (i + 3) from nI_add i 3]; exact zl_s0 (by omega) hL
theorem zl_s4 {f : Int32 → zm_O} (hi : i + 5 ≤ L) (hL : L ≤ 320) : zq_sl (.inl (8, L, .inl xs)) (nI i + (4 : Int32)) f = f (xs (i + 4)) := by
  rw [show nI i + (4 : Int32) = nI (i + 4) from nI_add i 4]; exact zl_s0 (by omega) hL
theorem lg_cmp0 (x : Int64) : lg_cmp x x = 0 := by
  unfold lg_cmp
  rw [if_neg (Int64.lt_irrefl), if_pos rfl]
theorem zl_220 (hi : i + 5 ≤ L) (hL : L ≤ 320) (hS : zm_g h 1000000 = .inl (8, L, .inl xs)) (hK : zk_K h Y) (hO : zo_K h Y) : zl_G 220 i h := by
  obtain ⟨h1, h2, r, Y', e1, e2, K, O, F, F1⟩ := zt_feed (xs (i + 1)) hK hO
  have S1 : zm_g h1 1000000 = .inl (8, L, .inl xs) := (F1.2.2 1000000 (by omega)).trans hS
  obtain ⟨A, g, a1, -⟩ := id hO
  have c1 : zm_g h1 137 = .inr (7, zo_c 137 A) := (F1.2.2 137 (by omega)).trans a1.1
  refine ⟨h2, Y', ?_, K, O, F⟩
  rw [zb197_220, hS, zl_s1 hi hL, hK.1, zq_rc_o, e1, zq_bi_o, S1, zl_s1 hi hL, c1, zq_rc_o, e2, zq_bi_o, if_pos rfl, zm_nx]
theorem zl_243 (hi : i + 5 ≤ L) (hL : L ≤ 320) (hS : zm_g h 1000000 = .inl (8, L, .inl xs)) (hK : zk_K h Y) (hO : zo_K h Y) : zl_G 243 i h := by
  obtain ⟨h1, h2, r, Y', e1, e2, K, O, F, F1⟩ := zt_end (xs (i + 1)) hK hO
  have S1 : zm_g h1 1000000 = .inl (8, L, .inl xs) := (F1.2.2 1000000 (by omega)).trans hS
  obtain ⟨A, g, a1, -⟩ := id hO
  have c1 : zm_g h1 137 = .inr (7, zo_c 137 A) := (F1.2.2 137 (by omega)).trans a1.1
  refine ⟨h2, Y', ?_, K, O, F⟩
  rw [zb197_243, hS, zl_s1 hi hL, hK.1, zq_rc_o, e1, zq_bi_o, S1, zl_s1 hi hL, c1, zq_rc_o, e2, zq_bi_o, if_pos rfl, zm_nx]
theorem zl_266 (hi : i + 5 ≤ L) (hL : L ≤ 320) (hS : zm_g h 1000000 = .inl (8, L, .inl xs)) (hK : zk_K h Y) (hO : zo_K h Y) : zl_G 266 i h := by
  obtain ⟨h1, h2, r, Y', e1, e2, K, O, F, F1⟩ := zt_text  hK hO
  have S1 : zm_g h1 1000000 = .inl (8, L, .inl xs) := (F1.2.2 1000000 (by omega)).trans hS
  obtain ⟨A, g, a1, -⟩ := id hO
  have c1 : zm_g h1 137 = .inr (7, zo_c 137 A) := (F1.2.2 137 (by omega)).trans a1.1
  refine ⟨h2, Y', ?_, K, O, F⟩
  rw [zb197_266, hK.1, zq_rc_o, e1, zq_bi_o, c1, zq_rc_o, e2, zq_bi_o, if_pos rfl, zm_nx]
theorem zl_279 (hi : i + 5 ≤ L) (hL : L ≤ 320) (hS : zm_g h 1000000 = .inl (8, L, .inl xs)) (hK : zk_K h Y) (hO : zo_K h Y) : zl_G 279 i h := by
  obtain ⟨h1, h2, r, Y', e1, e2, K, O, F, F1⟩ := zt_fault  hK hO
  have S1 : zm_g h1 1000000 = .inl (8, L, .inl xs) := (F1.2.2 1000000 (by omega)).trans hS
  obtain ⟨A, g, a1, -⟩ := id hO
  have c1 : zm_g h1 137 = .inr (7, zo_c 137 A) := (F1.2.2 137 (by omega)).trans a1.1
  refine ⟨h2, Y', ?_, K, O, F⟩
  rw [zb197_279, hK.1, zq_rc_o, e1, zq_bi_o, c1, zq_rc_o, e2, zq_bi_o, if_pos rfl, zm_nx]
theorem zl_292 (hi : i + 5 ≤ L) (hL : L ≤ 320) (hS : zm_g h 1000000 = .inl (8, L, .inl xs)) (hK : zk_K h Y) (hO : zo_K h Y) : zl_G 292 i h := by
  obtain ⟨h1, h2, r, Y', e1, e2, K, O, F, F1⟩ := zt_rule (xs (i + 1)) hK hO
  have S1 : zm_g h1 1000000 = .inl (8, L, .inl xs) := (F1.2.2 1000000 (by omega)).trans hS
  obtain ⟨A, g, a1, -⟩ := id hO
  have c1 : zm_g h1 137 = .inr (7, zo_c 137 A) := (F1.2.2 137 (by omega)).trans a1.1
  refine ⟨h2, Y', ?_, K, O, F⟩
  rw [zb197_292, hS, zl_s1 hi hL, hK.1, zq_rc_o, e1, zq_bi_o, S1, zl_s1 hi hL, c1, zq_rc_o, e2, zq_bi_o, if_pos rfl, zm_nx]
theorem zl_315 (hi : i + 5 ≤ L) (hL : L ≤ 320) (hS : zm_g h 1000000 = .inl (8, L, .inl xs)) (hK : zk_K h Y) (hO : zo_K h Y) : zl_G 315 i h := by
  obtain ⟨h1, h2, r, Y', e1, e2, K, O, F, F1⟩ := zt_figure (xs (i + 1)) (xs (i + 2)) hK hO
  have S1 : zm_g h1 1000000 = .inl (8, L, .inl xs) := (F1.2.2 1000000 (by omega)).trans hS
  obtain ⟨A, g, a1, -⟩ := id hO
  have c1 : zm_g h1 137 = .inr (7, zo_c 137 A) := (F1.2.2 137 (by omega)).trans a1.1
  refine ⟨h2, Y', ?_, K, O, F⟩
  rw [zb197_315, hS, zl_s1 hi hL, zl_s2 hi hL, hK.1, zq_rc_o, e1, zq_bi_o, S1, zl_s1 hi hL, zl_s2 hi hL, c1, zq_rc_o, e2, zq_bi_o, if_pos rfl, zm_nx]
theorem zl_348 (hi : i + 5 ≤ L) (hL : L ≤ 320) (hS : zm_g h 1000000 = .inl (8, L, .inl xs)) (hK : zk_K h Y) (hO : zo_K h Y) : zl_G 348 i h := by
  obtain ⟨h1, h2, r, Y', e1, e2, K, O, F, F1⟩ := zt_week (xs (i + 1)) (xs (i + 2)) hK hO
  have S1 : zm_g h1 1000000 = .inl (8, L, .inl xs) := (F1.2.2 1000000 (by omega)).trans hS
  obtain ⟨A, g, a1, -⟩ := id hO
  have c1 : zm_g h1 137 = .inr (7, zo_c 137 A) := (F1.2.2 137 (by omega)).trans a1.1
  refine ⟨h2, Y', ?_, K, O, F⟩
  rw [zb197_348, hS, zl_s1 hi hL, zl_s2 hi hL, hK.1, zq_rc_o, e1, zq_bi_o, S1, zl_s1 hi hL, zl_s2 hi hL, c1, zq_rc_o, e2, zq_bi_o, if_pos rfl, zm_nx]
theorem zl_381 (hi : i + 5 ≤ L) (hL : L ≤ 320) (hS : zm_g h 1000000 = .inl (8, L, .inl xs)) (hK : zk_K h Y) (hO : zo_K h Y) : zl_G 381 i h := by
  obtain ⟨h1, h2, r, Y', e1, e2, K, O, F, F1⟩ := zt_alter (xs (i + 1)) (xs (i + 2)) (xs (i + 3)) hK hO
  have S1 : zm_g h1 1000000 = .inl (8, L, .inl xs) := (F1.2.2 1000000 (by omega)).trans hS
  obtain ⟨A, g, a1, -⟩ := id hO
  have c1 : zm_g h1 137 = .inr (7, zo_c 137 A) := (F1.2.2 137 (by omega)).trans a1.1
  refine ⟨h2, Y', ?_, K, O, F⟩
  rw [zb197_381, hS, zl_s1 hi hL, zl_s2 hi hL, zl_s3 hi hL, hK.1, zq_rc_o, e1, zq_bi_o, S1, zl_s1 hi hL, zl_s2 hi hL, zl_s3 hi hL, c1, zq_rc_o, e2, zq_bi_o, if_pos rfl, zm_nx]
theorem zl_424 (hi : i + 5 ≤ L) (hL : L ≤ 320) (hS : zm_g h 1000000 = .inl (8, L, .inl xs)) (hK : zk_K h Y) (hO : zo_K h Y) : zl_G 424 i h := by
  obtain ⟨h1, h2, r, Y', e1, e2, K, O, F, F1⟩ := zt_set (xs (i + 1)) (xs (i + 2)) (xs (i + 3)) hK hO
  have S1 : zm_g h1 1000000 = .inl (8, L, .inl xs) := (F1.2.2 1000000 (by omega)).trans hS
  obtain ⟨A, g, a1, -⟩ := id hO
  have c1 : zm_g h1 137 = .inr (7, zo_c 137 A) := (F1.2.2 137 (by omega)).trans a1.1
  refine ⟨h2, Y', ?_, K, O, F⟩
  rw [zb197_424, hS, zl_s1 hi hL, zl_s2 hi hL, zl_s3 hi hL, hK.1, zq_rc_o, e1, zq_bi_o, S1, zl_s1 hi hL, zl_s2 hi hL, zl_s3 hi hL, c1, zq_rc_o, e2, zq_bi_o, if_pos rfl, zm_nx]
theorem zl_467 (hi : i + 5 ≤ L) (hL : L ≤ 320) (hS : zm_g h 1000000 = .inl (8, L, .inl xs)) (hK : zk_K h Y) (hO : zo_K h Y) : zl_G 467 i h := by
  obtain ⟨h1, h2, r, Y', e1, e2, K, O, F, F1⟩ := zt_roll (xs (i + 1)) (xs (i + 2)) hK hO
  have S1 : zm_g h1 1000000 = .inl (8, L, .inl xs) := (F1.2.2 1000000 (by omega)).trans hS
  obtain ⟨A, g, a1, -⟩ := id hO
  have c1 : zm_g h1 137 = .inr (7, zo_c 137 A) := (F1.2.2 137 (by omega)).trans a1.1
  refine ⟨h2, Y', ?_, K, O, F⟩
  rw [zb197_467, hS, zl_s1 hi hL, zl_s2 hi hL, hK.1, zq_rc_o, e1, zq_bi_o, S1, zl_s1 hi hL, zl_s2 hi hL, c1, zq_rc_o, e2, zq_bi_o, if_pos rfl, zm_nx]
theorem zl_500 (hi : i + 5 ≤ L) (hL : L ≤ 320) (hS : zm_g h 1000000 = .inl (8, L, .inl xs)) (hK : zk_K h Y) (hO : zo_K h Y) : zl_G 500 i h := by
  obtain ⟨h1, h2, r, Y', e1, e2, K, O, F, F1⟩ := zt_ice (xs (i + 1)) hK hO
  have S1 : zm_g h1 1000000 = .inl (8, L, .inl xs) := (F1.2.2 1000000 (by omega)).trans hS
  obtain ⟨A, g, a1, -⟩ := id hO
  have c1 : zm_g h1 137 = .inr (7, zo_c 137 A) := (F1.2.2 137 (by omega)).trans a1.1
  refine ⟨h2, Y', ?_, K, O, F⟩
  rw [zb197_500, hS, zl_s1 hi hL, hK.1, zq_rc_o, e1, zq_bi_o, S1, zl_s1 hi hL, c1, zq_rc_o, e2, zq_bi_o, if_pos rfl, zm_nx]
theorem zl_523 (hi : i + 5 ≤ L) (hL : L ≤ 320) (hS : zm_g h 1000000 = .inl (8, L, .inl xs)) (hK : zk_K h Y) (hO : zo_K h Y) : zl_G 523 i h := by
  obtain ⟨h1, h2, r, Y', e1, e2, K, O, F, F1⟩ := zt_salt (xs (i + 1)) hK hO
  have S1 : zm_g h1 1000000 = .inl (8, L, .inl xs) := (F1.2.2 1000000 (by omega)).trans hS
  obtain ⟨A, g, a1, -⟩ := id hO
  have c1 : zm_g h1 137 = .inr (7, zo_c 137 A) := (F1.2.2 137 (by omega)).trans a1.1
  refine ⟨h2, Y', ?_, K, O, F⟩
  rw [zb197_523, hS, zl_s1 hi hL, hK.1, zq_rc_o, e1, zq_bi_o, S1, zl_s1 hi hL, c1, zq_rc_o, e2, zq_bi_o, if_pos rfl, zm_nx]
theorem zl_546 (hi : i + 5 ≤ L) (hL : L ≤ 320) (hS : zm_g h 1000000 = .inl (8, L, .inl xs)) (hK : zk_K h Y) (hO : zo_K h Y) : zl_G 546 i h := by
  obtain ⟨h1, h2, r, Y', e1, e2, K, O, F, F1⟩ := zt_clear (xs (i + 1)) hK hO
  have S1 : zm_g h1 1000000 = .inl (8, L, .inl xs) := (F1.2.2 1000000 (by omega)).trans hS
  obtain ⟨A, g, a1, -⟩ := id hO
  have c1 : zm_g h1 137 = .inr (7, zo_c 137 A) := (F1.2.2 137 (by omega)).trans a1.1
  refine ⟨h2, Y', ?_, K, O, F⟩
  rw [zb197_546, hS, zl_s1 hi hL, hK.1, zq_rc_o, e1, zq_bi_o, S1, zl_s1 hi hL, c1, zq_rc_o, e2, zq_bi_o, if_pos rfl, zm_nx]
theorem zl_569 (hi : i + 5 ≤ L) (hL : L ≤ 320) (hS : zm_g h 1000000 = .inl (8, L, .inl xs)) (hK : zk_K h Y) (hO : zo_K h Y) : zl_G 569 i h := by
  obtain ⟨h1, h2, r, Y', e1, e2, K, O, F, F1⟩ := zt_days (xs (i + 1)) hK hO
  have S1 : zm_g h1 1000000 = .inl (8, L, .inl xs) := (F1.2.2 1000000 (by omega)).trans hS
  obtain ⟨A, g, a1, -⟩ := id hO
  have c1 : zm_g h1 137 = .inr (7, zo_c 137 A) := (F1.2.2 137 (by omega)).trans a1.1
  refine ⟨h2, Y', ?_, K, O, F⟩
  rw [zb197_569, hS, zl_s1 hi hL, hK.1, zq_rc_o, e1, zq_bi_o, S1, zl_s1 hi hL, c1, zq_rc_o, e2, zq_bi_o, if_pos rfl, zm_nx]
theorem zl_592 (hi : i + 5 ≤ L) (hL : L ≤ 320) (hS : zm_g h 1000000 = .inl (8, L, .inl xs)) (hK : zk_K h Y) (hO : zo_K h Y) : zl_G 592 i h := by
  obtain ⟨h1, h2, r, Y', e1, e2, K, O, F, F1⟩ := zt_runs (xs (i + 1)) (xs (i + 2)) hK hO
  have S1 : zm_g h1 1000000 = .inl (8, L, .inl xs) := (F1.2.2 1000000 (by omega)).trans hS
  obtain ⟨A, g, a1, -⟩ := id hO
  have c1 : zm_g h1 137 = .inr (7, zo_c 137 A) := (F1.2.2 137 (by omega)).trans a1.1
  refine ⟨h2, Y', ?_, K, O, F⟩
  rw [zb197_592, hS, zl_s1 hi hL, zl_s2 hi hL, hK.1, zq_rc_o, e1, zq_bi_o, S1, zl_s1 hi hL, zl_s2 hi hL, c1, zq_rc_o, e2, zq_bi_o, if_pos rfl, zm_nx]
theorem zl_625 (hi : i + 5 ≤ L) (hL : L ≤ 320) (hS : zm_g h 1000000 = .inl (8, L, .inl xs)) (hK : zk_K h Y) (hO : zo_K h Y) : zl_G 625 i h := by
  obtain ⟨h1, h2, r, Y', e1, e2, K, O, F, F1⟩ := zt_ahead (xs (i + 1)) (xs (i + 2)) (xs (i + 3)) hK hO
  have S1 : zm_g h1 1000000 = .inl (8, L, .inl xs) := (F1.2.2 1000000 (by omega)).trans hS
  obtain ⟨A, g, a1, -⟩ := id hO
  have c1 : zm_g h1 137 = .inr (7, zo_c 137 A) := (F1.2.2 137 (by omega)).trans a1.1
  refine ⟨h2, Y', ?_, K, O, F⟩
  rw [zb197_625, hS, zl_s1 hi hL, zl_s2 hi hL, zl_s3 hi hL, hK.1, zq_rc_o, e1, zq_bi_o, S1, zl_s1 hi hL, zl_s2 hi hL, zl_s3 hi hL, c1, zq_rc_o, e2, zq_bi_o, if_pos rfl, zm_nx]
theorem zl_668 (hi : i + 5 ≤ L) (hL : L ≤ 320) (hS : zm_g h 1000000 = .inl (8, L, .inl xs)) (hK : zk_K h Y) (hO : zo_K h Y) : zl_G 668 i h := by
  obtain ⟨h1, h2, r, Y', e1, e2, K, O, F, F1⟩ := zt_falls (xs (i + 1)) hK hO
  have S1 : zm_g h1 1000000 = .inl (8, L, .inl xs) := (F1.2.2 1000000 (by omega)).trans hS
  obtain ⟨A, g, a1, -⟩ := id hO
  have c1 : zm_g h1 137 = .inr (7, zo_c 137 A) := (F1.2.2 137 (by omega)).trans a1.1
  refine ⟨h2, Y', ?_, K, O, F⟩
  rw [zb197_668, hS, zl_s1 hi hL, hK.1, zq_rc_o, e1, zq_bi_o, S1, zl_s1 hi hL, c1, zq_rc_o, e2, zq_bi_o, if_pos rfl, zm_nx]
theorem zl_691 (hi : i + 5 ≤ L) (hL : L ≤ 320) (hS : zm_g h 1000000 = .inl (8, L, .inl xs)) (hK : zk_K h Y) (hO : zo_K h Y) : zl_G 691 i h := by
  obtain ⟨h1, h2, r, Y', e1, e2, K, O, F, F1⟩ := zt_reign (xs (i + 1)) (xs (i + 2)) (xs (i + 3)) hK hO
  have S1 : zm_g h1 1000000 = .inl (8, L, .inl xs) := (F1.2.2 1000000 (by omega)).trans hS
  obtain ⟨A, g, a1, -⟩ := id hO
  have c1 : zm_g h1 137 = .inr (7, zo_c 137 A) := (F1.2.2 137 (by omega)).trans a1.1
  refine ⟨h2, Y', ?_, K, O, F⟩
  rw [zb197_691, hS, zl_s1 hi hL, zl_s2 hi hL, zl_s3 hi hL, hK.1, zq_rc_o, e1, zq_bl_o, S1, zl_s1 hi hL, zl_s2 hi hL, zl_s3 hi hL, c1, zq_rc_o, e2, zq_bl_o, lg_cmp0, if_pos rfl, zm_nx]
theorem zl_735 (hi : i + 5 ≤ L) (hL : L ≤ 320) (hS : zm_g h 1000000 = .inl (8, L, .inl xs)) (hK : zk_K h Y) (hO : zo_K h Y) : zl_G 735 i h := by
  obtain ⟨h1, h2, r, Y', e1, e2, K, O, F, F1⟩ := zt_decree (xs (i + 1)) hK hO
  have S1 : zm_g h1 1000000 = .inl (8, L, .inl xs) := (F1.2.2 1000000 (by omega)).trans hS
  obtain ⟨A, g, a1, -⟩ := id hO
  have c1 : zm_g h1 137 = .inr (7, zo_c 137 A) := (F1.2.2 137 (by omega)).trans a1.1
  refine ⟨h2, Y', ?_, K, O, F⟩
  rw [zb197_735, hS, zl_s1 hi hL, hK.1, zq_rc_o, e1, zq_bi_o, S1, zl_s1 hi hL, c1, zq_rc_o, e2, zq_bi_o, if_pos rfl, zm_nx]
theorem zl_758 (hi : i + 5 ≤ L) (hL : L ≤ 320) (hS : zm_g h 1000000 = .inl (8, L, .inl xs)) (hK : zk_K h Y) (hO : zo_K h Y) : zl_G 758 i h := by
  obtain ⟨h1, h2, r, Y', e1, e2, K, O, F, F1⟩ := zt_coup  hK hO
  have S1 : zm_g h1 1000000 = .inl (8, L, .inl xs) := (F1.2.2 1000000 (by omega)).trans hS
  obtain ⟨A, g, a1, -⟩ := id hO
  have c1 : zm_g h1 137 = .inr (7, zo_c 137 A) := (F1.2.2 137 (by omega)).trans a1.1
  refine ⟨h2, Y', ?_, K, O, F⟩
  rw [zb197_758, hK.1, zq_rc_o, e1, zq_bi_o, c1, zq_rc_o, e2, zq_bi_o, if_pos rfl, zm_nx]
theorem zl_771 (hi : i + 5 ≤ L) (hL : L ≤ 320) (hS : zm_g h 1000000 = .inl (8, L, .inl xs)) (hK : zk_K h Y) (hO : zo_K h Y) : zl_G 771 i h := by
  obtain ⟨h1, h2, r, Y', e1, e2, K, O, F, F1⟩ := zt_need (xs (i + 1)) (xs (i + 2)) hK hO
  have S1 : zm_g h1 1000000 = .inl (8, L, .inl xs) := (F1.2.2 1000000 (by omega)).trans hS
  obtain ⟨A, g, a1, -⟩ := id hO
  have c1 : zm_g h1 137 = .inr (7, zo_c 137 A) := (F1.2.2 137 (by omega)).trans a1.1
  refine ⟨h2, Y', ?_, K, O, F⟩
  rw [zb197_771, hS, zl_s1 hi hL, zl_s2 hi hL, hK.1, zq_rc_o, e1, zq_bi_o, S1, zl_s1 hi hL, zl_s2 hi hL, c1, zq_rc_o, e2, zq_bi_o, if_pos rfl, zm_nx]
theorem zl_804 (hi : i + 5 ≤ L) (hL : L ≤ 320) (hS : zm_g h 1000000 = .inl (8, L, .inl xs)) (hK : zk_K h Y) (hO : zo_K h Y) : zl_G 804 i h := by
  obtain ⟨h1, h2, r, Y', e1, e2, K, O, F, F1⟩ := zt_bucket (xs (i + 1)) hK hO
  have S1 : zm_g h1 1000000 = .inl (8, L, .inl xs) := (F1.2.2 1000000 (by omega)).trans hS
  obtain ⟨A, g, a1, -⟩ := id hO
  have c1 : zm_g h1 137 = .inr (7, zo_c 137 A) := (F1.2.2 137 (by omega)).trans a1.1
  refine ⟨h2, Y', ?_, K, O, F⟩
  rw [zb197_804, hS, zl_s1 hi hL, hK.1, zq_rc_o, e1, zq_bi_o, S1, zl_s1 hi hL, c1, zq_rc_o, e2, zq_bi_o, if_pos rfl, zm_nx]
theorem zl_827 (hi : i + 5 ≤ L) (hL : L ≤ 320) (hS : zm_g h 1000000 = .inl (8, L, .inl xs)) (hK : zk_K h Y) (hO : zo_K h Y) : zl_G 827 i h := by
  obtain ⟨h1, h2, r, Y', e1, e2, K, O, F, F1⟩ := zt_swap (xs (i + 1)) (xs (i + 2)) hK hO
  have S1 : zm_g h1 1000000 = .inl (8, L, .inl xs) := (F1.2.2 1000000 (by omega)).trans hS
  obtain ⟨A, g, a1, -⟩ := id hO
  have c1 : zm_g h1 137 = .inr (7, zo_c 137 A) := (F1.2.2 137 (by omega)).trans a1.1
  refine ⟨h2, Y', ?_, K, O, F⟩
  rw [zb197_827, hS, zl_s1 hi hL, zl_s2 hi hL, hK.1, zq_rc_o, e1, zq_bi_o, S1, zl_s1 hi hL, zl_s2 hi hL, c1, zq_rc_o, e2, zq_bi_o, if_pos rfl, zm_nx]
theorem zl_860 (hi : i + 5 ≤ L) (hL : L ≤ 320) (hS : zm_g h 1000000 = .inl (8, L, .inl xs)) (hK : zk_K h Y) (hO : zo_K h Y) : zl_G 860 i h := by
  obtain ⟨h1, h2, r, Y', e1, e2, K, O, F, F1⟩ := zt_lee (xs (i + 1)) (xs (i + 2)) hK hO
  have S1 : zm_g h1 1000000 = .inl (8, L, .inl xs) := (F1.2.2 1000000 (by omega)).trans hS
  obtain ⟨A, g, a1, -⟩ := id hO
  have c1 : zm_g h1 137 = .inr (7, zo_c 137 A) := (F1.2.2 137 (by omega)).trans a1.1
  refine ⟨h2, Y', ?_, K, O, F⟩
  rw [zb197_860, hS, zl_s1 hi hL, zl_s2 hi hL, hK.1, zq_rc_o, e1, zq_bi_o, S1, zl_s1 hi hL, zl_s2 hi hL, c1, zq_rc_o, e2, zq_bi_o, if_pos rfl, zm_nx]
theorem zl_893 (hi : i + 5 ≤ L) (hL : L ≤ 320) (hS : zm_g h 1000000 = .inl (8, L, .inl xs)) (hK : zk_K h Y) (hO : zo_K h Y) : zl_G 893 i h := by
  obtain ⟨h1, h2, r, Y', e1, e2, K, O, F, F1⟩ := zt_kind (xs (i + 1)) (xs (i + 2)) hK hO
  have S1 : zm_g h1 1000000 = .inl (8, L, .inl xs) := (F1.2.2 1000000 (by omega)).trans hS
  obtain ⟨A, g, a1, -⟩ := id hO
  have c1 : zm_g h1 137 = .inr (7, zo_c 137 A) := (F1.2.2 137 (by omega)).trans a1.1
  refine ⟨h2, Y', ?_, K, O, F⟩
  rw [zb197_893, hS, zl_s1 hi hL, zl_s2 hi hL, hK.1, zq_rc_o, e1, zq_bi_o, S1, zl_s1 hi hL, zl_s2 hi hL, c1, zq_rc_o, e2, zq_bi_o, if_pos rfl, zm_nx]
theorem zl_926 (hi : i + 5 ≤ L) (hL : L ≤ 320) (hS : zm_g h 1000000 = .inl (8, L, .inl xs)) (hK : zk_K h Y) (hO : zo_K h Y) : zl_G 926 i h := by
  obtain ⟨h1, h2, r, Y', e1, e2, K, O, F, F1⟩ := zt_face (xs (i + 1)) (xs (i + 2)) hK hO
  have S1 : zm_g h1 1000000 = .inl (8, L, .inl xs) := (F1.2.2 1000000 (by omega)).trans hS
  obtain ⟨A, g, a1, -⟩ := id hO
  have c1 : zm_g h1 137 = .inr (7, zo_c 137 A) := (F1.2.2 137 (by omega)).trans a1.1
  refine ⟨h2, Y', ?_, K, O, F⟩
  rw [zb197_926, hS, zl_s1 hi hL, zl_s2 hi hL, hK.1, zq_rc_o, e1, zq_bi_o, S1, zl_s1 hi hL, zl_s2 hi hL, c1, zq_rc_o, e2, zq_bi_o, if_pos rfl, zm_nx]
theorem zl_959 (hi : i + 5 ≤ L) (hL : L ≤ 320) (hS : zm_g h 1000000 = .inl (8, L, .inl xs)) (hK : zk_K h Y) (hO : zo_K h Y) : zl_G 959 i h := by
  obtain ⟨h1, h2, r, Y', e1, e2, K, O, F, F1⟩ := zt_thaw (xs (i + 1)) (xs (i + 2)) hK hO
  have S1 : zm_g h1 1000000 = .inl (8, L, .inl xs) := (F1.2.2 1000000 (by omega)).trans hS
  obtain ⟨A, g, a1, -⟩ := id hO
  have c1 : zm_g h1 137 = .inr (7, zo_c 137 A) := (F1.2.2 137 (by omega)).trans a1.1
  refine ⟨h2, Y', ?_, K, O, F⟩
  rw [zb197_959, hS, zl_s1 hi hL, zl_s2 hi hL, hK.1, zq_rc_o, e1, zq_bi_o, S1, zl_s1 hi hL, zl_s2 hi hL, c1, zq_rc_o, e2, zq_bi_o, if_pos rfl, zm_nx]
theorem zl_992 (hi : i + 5 ≤ L) (hL : L ≤ 320) (hS : zm_g h 1000000 = .inl (8, L, .inl xs)) (hK : zk_K h Y) (hO : zo_K h Y) : zl_G 992 i h := by
  obtain ⟨h1, h2, r, Y', e1, e2, K, O, F, F1⟩ := zt_luck (xs (i + 1)) (xs (i + 2)) (xs (i + 3)) hK hO
  have S1 : zm_g h1 1000000 = .inl (8, L, .inl xs) := (F1.2.2 1000000 (by omega)).trans hS
  obtain ⟨A, g, a1, -⟩ := id hO
  have c1 : zm_g h1 137 = .inr (7, zo_c 137 A) := (F1.2.2 137 (by omega)).trans a1.1
  refine ⟨h2, Y', ?_, K, O, F⟩
  rw [zb197_992, hS, zl_s1 hi hL, zl_s2 hi hL, zl_s3 hi hL, hK.1, zq_rc_o, e1, zq_bl_o, S1, zl_s1 hi hL, zl_s2 hi hL, zl_s3 hi hL, c1, zq_rc_o, e2, zq_bl_o, lg_cmp0, if_pos rfl, zm_nx]
theorem zl_1036 (hi : i + 5 ≤ L) (hL : L ≤ 320) (hS : zm_g h 1000000 = .inl (8, L, .inl xs)) (hK : zk_K h Y) (hO : zo_K h Y) : zl_G 1036 i h := by
  obtain ⟨h1, h2, r, Y', e1, e2, K, O, F, F1⟩ := zt_mean (xs (i + 1)) (xs (i + 2)) (xs (i + 3)) hK hO
  have S1 : zm_g h1 1000000 = .inl (8, L, .inl xs) := (F1.2.2 1000000 (by omega)).trans hS
  obtain ⟨A, g, a1, -⟩ := id hO
  have c1 : zm_g h1 137 = .inr (7, zo_c 137 A) := (F1.2.2 137 (by omega)).trans a1.1
  refine ⟨h2, Y', ?_, K, O, F⟩
  rw [zb197_1036, hS, zl_s1 hi hL, zl_s2 hi hL, zl_s3 hi hL, hK.1, zq_rc_o, e1, zq_bl_o, S1, zl_s1 hi hL, zl_s2 hi hL, zl_s3 hi hL, c1, zq_rc_o, e2, zq_bl_o, lg_cmp0, if_pos rfl, zm_nx]
theorem zl_1080 (hi : i + 5 ≤ L) (hL : L ≤ 320) (hS : zm_g h 1000000 = .inl (8, L, .inl xs)) (hK : zk_K h Y) (hO : zo_K h Y) : zl_G 1080 i h := by
  obtain ⟨h1, h2, r, Y', e1, e2, K, O, F, F1⟩ := zt_see (xs (i + 1)) (xs (i + 2)) hK hO
  have S1 : zm_g h1 1000000 = .inl (8, L, .inl xs) := (F1.2.2 1000000 (by omega)).trans hS
  obtain ⟨A, g, a1, -⟩ := id hO
  have c1 : zm_g h1 137 = .inr (7, zo_c 137 A) := (F1.2.2 137 (by omega)).trans a1.1
  refine ⟨h2, Y', ?_, K, O, F⟩
  rw [zb197_1080, hS, zl_s1 hi hL, zl_s2 hi hL, hK.1, zq_rc_o, e1, zq_bi_o, S1, zl_s1 hi hL, zl_s2 hi hL, c1, zq_rc_o, e2, zq_bi_o, if_pos rfl, zm_nx]
theorem zl_1113 (hi : i + 5 ≤ L) (hL : L ≤ 320) (hS : zm_g h 1000000 = .inl (8, L, .inl xs)) (hK : zk_K h Y) (hO : zo_K h Y) : zl_G 1113 i h := by
  obtain ⟨h1, h2, r, Y', e1, e2, K, O, F, F1⟩ := zt_forget (xs (i + 1)) hK hO
  have S1 : zm_g h1 1000000 = .inl (8, L, .inl xs) := (F1.2.2 1000000 (by omega)).trans hS
  obtain ⟨A, g, a1, -⟩ := id hO
  have c1 : zm_g h1 137 = .inr (7, zo_c 137 A) := (F1.2.2 137 (by omega)).trans a1.1
  refine ⟨h2, Y', ?_, K, O, F⟩
  rw [zb197_1113, hS, zl_s1 hi hL, hK.1, zq_rc_o, e1, zq_bi_o, S1, zl_s1 hi hL, c1, zq_rc_o, e2, zq_bi_o, if_pos rfl, zm_nx]
theorem zl_1136 (hi : i + 5 ≤ L) (hL : L ≤ 320) (hS : zm_g h 1000000 = .inl (8, L, .inl xs)) (hK : zk_K h Y) (hO : zo_K h Y) : zl_G 1136 i h := by
  obtain ⟨h1, h2, r, Y', e1, e2, K, O, F, F1⟩ := zt_kinds (xs (i + 1)) hK hO
  have S1 : zm_g h1 1000000 = .inl (8, L, .inl xs) := (F1.2.2 1000000 (by omega)).trans hS
  obtain ⟨A, g, a1, -⟩ := id hO
  have c1 : zm_g h1 137 = .inr (7, zo_c 137 A) := (F1.2.2 137 (by omega)).trans a1.1
  refine ⟨h2, Y', ?_, K, O, F⟩
  rw [zb197_1136, hS, zl_s1 hi hL, hK.1, zq_rc_o, e1, zq_bi_o, S1, zl_s1 hi hL, c1, zq_rc_o, e2, zq_bi_o, if_pos rfl, zm_nx]
theorem zl_1159 (hi : i + 5 ≤ L) (hL : L ≤ 320) (hS : zm_g h 1000000 = .inl (8, L, .inl xs)) (hK : zk_K h Y) (hO : zo_K h Y) : zl_G 1159 i h := by
  obtain ⟨h1, h2, r, Y', e1, e2, K, O, F, F1⟩ := zt_sizes (xs (i + 1)) hK hO
  have S1 : zm_g h1 1000000 = .inl (8, L, .inl xs) := (F1.2.2 1000000 (by omega)).trans hS
  obtain ⟨A, g, a1, -⟩ := id hO
  have c1 : zm_g h1 137 = .inr (7, zo_c 137 A) := (F1.2.2 137 (by omega)).trans a1.1
  refine ⟨h2, Y', ?_, K, O, F⟩
  rw [zb197_1159, hS, zl_s1 hi hL, hK.1, zq_rc_o, e1, zq_bi_o, S1, zl_s1 hi hL, c1, zq_rc_o, e2, zq_bi_o, if_pos rfl, zm_nx]
theorem zl_1182 (hi : i + 5 ≤ L) (hL : L ≤ 320) (hS : zm_g h 1000000 = .inl (8, L, .inl xs)) (hK : zk_K h Y) (hO : zo_K h Y) : zl_G 1182 i h := by
  obtain ⟨h1, h2, r, Y', e1, e2, K, O, F, F1⟩ := zt_leans (xs (i + 1)) (xs (i + 2)) hK hO
  have S1 : zm_g h1 1000000 = .inl (8, L, .inl xs) := (F1.2.2 1000000 (by omega)).trans hS
  obtain ⟨A, g, a1, -⟩ := id hO
  have c1 : zm_g h1 137 = .inr (7, zo_c 137 A) := (F1.2.2 137 (by omega)).trans a1.1
  refine ⟨h2, Y', ?_, K, O, F⟩
  rw [zb197_1182, hS, zl_s1 hi hL, zl_s2 hi hL, hK.1, zq_rc_o, e1, zq_bi_o, S1, zl_s1 hi hL, zl_s2 hi hL, c1, zq_rc_o, e2, zq_bi_o, if_pos rfl, zm_nx]
theorem zl_1215 (hi : i + 5 ≤ L) (hL : L ≤ 320) (hS : zm_g h 1000000 = .inl (8, L, .inl xs)) (hK : zk_K h Y) (hO : zo_K h Y) : zl_G 1215 i h := by
  obtain ⟨h1, h2, r, Y', e1, e2, K, O, F, F1⟩ := zt_ask (xs (i + 1)) (xs (i + 2)) hK hO
  have S1 : zm_g h1 1000000 = .inl (8, L, .inl xs) := (F1.2.2 1000000 (by omega)).trans hS
  obtain ⟨A, g, a1, -⟩ := id hO
  have c1 : zm_g h1 137 = .inr (7, zo_c 137 A) := (F1.2.2 137 (by omega)).trans a1.1
  refine ⟨h2, Y', ?_, K, O, F⟩
  rw [zb197_1215, hS, zl_s1 hi hL, zl_s2 hi hL, hK.1, zq_rc_o, e1, zq_bi_o, S1, zl_s1 hi hL, zl_s2 hi hL, c1, zq_rc_o, e2, zq_bi_o, if_pos rfl, zm_nx]
theorem zl_1248 (hi : i + 5 ≤ L) (hL : L ≤ 320) (hS : zm_g h 1000000 = .inl (8, L, .inl xs)) (hK : zk_K h Y) (hO : zo_K h Y) : zl_G 1248 i h := by
  obtain ⟨h1, h2, r, Y', e1, e2, K, O, F, F1⟩ := zt_drift (xs (i + 1)) (xs (i + 2)) (xs (i + 3)) hK hO
  have S1 : zm_g h1 1000000 = .inl (8, L, .inl xs) := (F1.2.2 1000000 (by omega)).trans hS
  obtain ⟨A, g, a1, -⟩ := id hO
  have c1 : zm_g h1 137 = .inr (7, zo_c 137 A) := (F1.2.2 137 (by omega)).trans a1.1
  refine ⟨h2, Y', ?_, K, O, F⟩
  rw [zb197_1248, hS, zl_s1 hi hL, zl_s2 hi hL, zl_s3 hi hL, hK.1, zq_rc_o, e1, zq_bi_o, S1, zl_s1 hi hL, zl_s2 hi hL, zl_s3 hi hL, c1, zq_rc_o, e2, zq_bi_o, if_pos rfl, zm_nx]
theorem zl_1291 (hi : i + 5 ≤ L) (hL : L ≤ 320) (hS : zm_g h 1000000 = .inl (8, L, .inl xs)) (hK : zk_K h Y) (hO : zo_K h Y) : zl_G 1291 i h := by
  obtain ⟨h1, h2, r, Y', e1, e2, K, O, F, F1⟩ := zt_keep (xs (i + 1)) hK hO
  have S1 : zm_g h1 1000000 = .inl (8, L, .inl xs) := (F1.2.2 1000000 (by omega)).trans hS
  obtain ⟨A, g, a1, -⟩ := id hO
  have c1 : zm_g h1 137 = .inr (7, zo_c 137 A) := (F1.2.2 137 (by omega)).trans a1.1
  refine ⟨h2, Y', ?_, K, O, F⟩
  rw [zb197_1291, hS, zl_s1 hi hL, hK.1, zq_rc_o, e1, zq_bi_o, S1, zl_s1 hi hL, c1, zq_rc_o, e2, zq_bi_o, if_pos rfl, zm_nx]
theorem zl_1314 (hi : i + 5 ≤ L) (hL : L ≤ 320) (hS : zm_g h 1000000 = .inl (8, L, .inl xs)) (hK : zk_K h Y) (hO : zo_K h Y) : zl_G 1314 i h := by
  obtain ⟨h1, h2, r, Y', e1, e2, K, O, F, F1⟩ := zt_back (xs (i + 1)) hK hO
  have S1 : zm_g h1 1000000 = .inl (8, L, .inl xs) := (F1.2.2 1000000 (by omega)).trans hS
  obtain ⟨A, g, a1, -⟩ := id hO
  have c1 : zm_g h1 137 = .inr (7, zo_c 137 A) := (F1.2.2 137 (by omega)).trans a1.1
  refine ⟨h2, Y', ?_, K, O, F⟩
  rw [zb197_1314, hS, zl_s1 hi hL, hK.1, zq_rc_o, e1, zq_bi_o, S1, zl_s1 hi hL, c1, zq_rc_o, e2, zq_bi_o, if_pos rfl, zm_nx]
theorem zl_1337 (hi : i + 5 ≤ L) (hL : L ≤ 320) (hS : zm_g h 1000000 = .inl (8, L, .inl xs)) (hK : zk_K h Y) (hO : zo_K h Y) : zl_G 1337 i h := by
  obtain ⟨h1, h2, r, Y', e1, e2, K, O, F, F1⟩ := zt_sheet (xs (i + 1)) (xs (i + 2)) (xs (i + 3)) hK hO
  have S1 : zm_g h1 1000000 = .inl (8, L, .inl xs) := (F1.2.2 1000000 (by omega)).trans hS
  obtain ⟨A, g, a1, -⟩ := id hO
  have c1 : zm_g h1 137 = .inr (7, zo_c 137 A) := (F1.2.2 137 (by omega)).trans a1.1
  refine ⟨h2, Y', ?_, K, O, F⟩
  rw [zb197_1337, hS, zl_s1 hi hL, zl_s2 hi hL, zl_s3 hi hL, hK.1, zq_rc_o, e1, zq_bi_o, S1, zl_s1 hi hL, zl_s2 hi hL, zl_s3 hi hL, c1, zq_rc_o, e2, zq_bi_o, if_pos rfl, zm_nx]
theorem zl_1380 (hi : i + 5 ≤ L) (hL : L ≤ 320) (hS : zm_g h 1000000 = .inl (8, L, .inl xs)) (hK : zk_K h Y) (hO : zo_K h Y) : zl_G 1380 i h := by
  obtain ⟨h1, h2, r, Y', e1, e2, K, O, F, F1⟩ := zt_lay (xs (i + 1)) (xs (i + 2)) (xs (i + 3)) hK hO
  have S1 : zm_g h1 1000000 = .inl (8, L, .inl xs) := (F1.2.2 1000000 (by omega)).trans hS
  obtain ⟨A, g, a1, -⟩ := id hO
  have c1 : zm_g h1 137 = .inr (7, zo_c 137 A) := (F1.2.2 137 (by omega)).trans a1.1
  refine ⟨h2, Y', ?_, K, O, F⟩
  rw [zb197_1380, hS, zl_s1 hi hL, zl_s2 hi hL, zl_s3 hi hL, hK.1, zq_rc_o, e1, zq_bi_o, S1, zl_s1 hi hL, zl_s2 hi hL, zl_s3 hi hL, c1, zq_rc_o, e2, zq_bi_o, if_pos rfl, zm_nx]
theorem zl_1423 (hi : i + 5 ≤ L) (hL : L ≤ 320) (hS : zm_g h 1000000 = .inl (8, L, .inl xs)) (hK : zk_K h Y) (hO : zo_K h Y) : zl_G 1423 i h := by
  obtain ⟨h1, h2, r, Y', e1, e2, K, O, F, F1⟩ := zt_read (xs (i + 1)) (xs (i + 2)) (xs (i + 3)) (xs (i + 4)) hK hO
  have S1 : zm_g h1 1000000 = .inl (8, L, .inl xs) := (F1.2.2 1000000 (by omega)).trans hS
  obtain ⟨A, g, a1, -⟩ := id hO
  have c1 : zm_g h1 137 = .inr (7, zo_c 137 A) := (F1.2.2 137 (by omega)).trans a1.1
  refine ⟨h2, Y', ?_, K, O, F⟩
  rw [zb197_1423, hS, zl_s1 hi hL, zl_s2 hi hL, zl_s3 hi hL, zl_s4 hi hL, hK.1, zq_rc_o, e1, zq_bi_o, S1, zl_s1 hi hL, zl_s2 hi hL, zl_s3 hi hL, zl_s4 hi hL, c1, zq_rc_o, e2, zq_bi_o, if_pos rfl, zm_nx]
theorem zl_1476 (hi : i + 5 ≤ L) (hL : L ≤ 320) (hS : zm_g h 1000000 = .inl (8, L, .inl xs)) (hK : zk_K h Y) (hO : zo_K h Y) : zl_G 1476 i h := by
  obtain ⟨h1, h2, r, Y', e1, e2, K, O, F, F1⟩ := zt_torn  hK hO
  have S1 : zm_g h1 1000000 = .inl (8, L, .inl xs) := (F1.2.2 1000000 (by omega)).trans hS
  obtain ⟨A, g, a1, -⟩ := id hO
  have c1 : zm_g h1 137 = .inr (7, zo_c 137 A) := (F1.2.2 137 (by omega)).trans a1.1
  refine ⟨h2, Y', ?_, K, O, F⟩
  rw [zb197_1476, hK.1, zq_rc_o, e1, zq_bi_o, c1, zq_rc_o, e2, zq_bi_o, if_pos rfl, zm_nx]
theorem zl_1489 (hi : i + 5 ≤ L) (hL : L ≤ 320) (hS : zm_g h 1000000 = .inl (8, L, .inl xs)) (hK : zk_K h Y) (hO : zo_K h Y) : zl_G 1489 i h := by
  obtain ⟨h1, h2, r, Y', e1, e2, K, O, F, F1⟩ := zt_count (xs (i + 1)) hK hO
  have S1 : zm_g h1 1000000 = .inl (8, L, .inl xs) := (F1.2.2 1000000 (by omega)).trans hS
  obtain ⟨A, g, a1, -⟩ := id hO
  have c1 : zm_g h1 137 = .inr (7, zo_c 137 A) := (F1.2.2 137 (by omega)).trans a1.1
  refine ⟨h2, Y', ?_, K, O, F⟩
  rw [zb197_1489, hS, zl_s1 hi hL, hK.1, zq_rc_o, e1, zq_bi_o, S1, zl_s1 hi hL, c1, zq_rc_o, e2, zq_bi_o, if_pos rfl, zm_nx]
theorem zl_all (hi : i + 5 ≤ L) (hL : L ≤ 320) (hS : zm_g h 1000000 = .inl (8, L, .inl xs)) (hK : zk_K h Y) (hO : zo_K h Y) : ∀ n, n < 43 → zl_G ([220, 243, 266, 279, 292, 315, 348, 381, 424, 467, 500, 523, 546, 569, 592, 625, 668, 691, 735, 758, 771, 804, 827, 860, 893, 926, 959, 992, 1036, 1080, 1113, 1136, 1159, 1182, 1215, 1248, 1291, 1314, 1337, 1380, 1423, 1476, 1489].getD n 0) i h := by
  intro n hn
  match n, hn with
  | 0, _ => exact zl_220 hi hL hS hK hO
  | 1, _ => exact zl_243 hi hL hS hK hO
  | 2, _ => exact zl_266 hi hL hS hK hO
  | 3, _ => exact zl_279 hi hL hS hK hO
  | 4, _ => exact zl_292 hi hL hS hK hO
  | 5, _ => exact zl_315 hi hL hS hK hO
  | 6, _ => exact zl_348 hi hL hS hK hO
  | 7, _ => exact zl_381 hi hL hS hK hO
  | 8, _ => exact zl_424 hi hL hS hK hO
  | 9, _ => exact zl_467 hi hL hS hK hO
  | 10, _ => exact zl_500 hi hL hS hK hO
  | 11, _ => exact zl_523 hi hL hS hK hO
  | 12, _ => exact zl_546 hi hL hS hK hO
  | 13, _ => exact zl_569 hi hL hS hK hO
  | 14, _ => exact zl_592 hi hL hS hK hO
  | 15, _ => exact zl_625 hi hL hS hK hO
  | 16, _ => exact zl_668 hi hL hS hK hO
  | 17, _ => exact zl_691 hi hL hS hK hO
  | 18, _ => exact zl_735 hi hL hS hK hO
  | 19, _ => exact zl_758 hi hL hS hK hO
  | 20, _ => exact zl_771 hi hL hS hK hO
  | 21, _ => exact zl_804 hi hL hS hK hO
  | 22, _ => exact zl_827 hi hL hS hK hO
  | 23, _ => exact zl_860 hi hL hS hK hO
  | 24, _ => exact zl_893 hi hL hS hK hO
  | 25, _ => exact zl_926 hi hL hS hK hO
  | 26, _ => exact zl_959 hi hL hS hK hO
  | 27, _ => exact zl_992 hi hL hS hK hO
  | 28, _ => exact zl_1036 hi hL hS hK hO
  | 29, _ => exact zl_1080 hi hL hS hK hO
  | 30, _ => exact zl_1113 hi hL hS hK hO
  | 31, _ => exact zl_1136 hi hL hS hK hO
  | 32, _ => exact zl_1159 hi hL hS hK hO
  | 33, _ => exact zl_1182 hi hL hS hK hO
  | 34, _ => exact zl_1215 hi hL hS hK hO
  | 35, _ => exact zl_1248 hi hL hS hK hO
  | 36, _ => exact zl_1291 hi hL hS hK hO
  | 37, _ => exact zl_1314 hi hL hS hK hO
  | 38, _ => exact zl_1337 hi hL hS hK hO
  | 39, _ => exact zl_1380 hi hL hS hK hO
  | 40, _ => exact zl_1423 hi hL hS hK hO
  | 41, _ => exact zl_1476 hi hL hS hK hO
  | 42, _ => exact zl_1489 hi hL hS hK hO
  | n + 43, hn => exact absurd hn (by omega)
theorem zl_loop {h0 : zm_H} (hL : L ≤ 320) : ∀ (m i : Nat) (h : zm_H) (Y : zy_T), L < i + 5 * m → i ≤ 330 → zm_g h 1000000 = .inl (8, L, .inl xs) → zk_K h Y → zo_K h Y → zm_Fr h0 h 0 150 → ∃ h', zm_den 17 197 18 [.ref 1000000, .ref 0, .ref 137, .int (nI i)] [] h = some (some (.int 1), h') ∧ zm_Fr h0 h' 0 150 := by
  have sn : ∀ f : Int32 → zm_O, zq_sn (.inl (8, L, .inl xs)) f = f (nI L) := fun f => rfl
  have tst : ∀ i, i ≤ 330 → ((nI L - 5 < nI i) ↔ L < i + 5) := by
    intro i hi
    by_cases z : 5 ≤ L
    · rw [show nI L - (5 : Int32) = nI (L - 5) from pk_sub (b := 5) z]
      by_cases y : L < i + 5
      · exact ⟨fun _ => y, fun _ => nI_lt (by omega) (by omega)⟩
      · exact ⟨fun w => absurd w (nI_nlt (by omega) (by omega)), fun w => absurd w y⟩
    · have n5 : ∀ L, L < 5 → nI L - 5 < (0 : Int32) := by decide +kernel
      exact ⟨fun _ => by omega, fun _ => Int32.lt_of_lt_of_le (n5 L (by omega)) (Int32.not_lt.mp (nI_pos (by omega)))⟩
  intro m
  induction m with
  | zero =>
    intro i h Y hm hi hS hK hO F
    refine ⟨h, ?_, F⟩
    rw [zb197_18, hS, sn, if_pos ((tst i hi).mpr (by omega)), zm_nx, zb197_1518, zq_rz_1]
  | succ m ih =>
    intro i h Y hm hi hS hK hO F
    by_cases z : L < i + 5
    · refine ⟨h, ?_, F⟩
      rw [zb197_18, hS, sn, if_pos ((tst i hi).mpr z), zm_nx, zb197_1518, zq_rz_1]
    · have G : ∃ h2 Y2, zm_den 17 197 18 [.ref 1000000, .ref 0, .ref 137, .int (nI i)] [] h = zm_den 17 197 1512 [.ref 1000000, .ref 0, .ref 137, .int (nI i)] [] h2 ∧ zk_K h2 Y2 ∧ zo_K h2 Y2 ∧ zm_Fr h h2 0 150 := by
        have s0 : ∀ f : Int32 → zm_O, zq_sl (.inl (8, L, .inl xs)) (nI i) f = f (xs i) := fun f => zl_s0 (k := 0) (i := i) (by omega) hL
        have E : zm_den 17 197 18 [.ref 1000000, .ref 0, .ref 137, .int (nI i)] [] h = zm_den 17 197 26 [.ref 1000000, .ref 0, .ref 137, .int (nI i)] [] h := by
          rw [zb197_18, hS, sn, if_neg (fun w => z ((tst i hi).mp w)), zm_nx]
        rw [E, zb197_26, hS, s0]
        unfold zq_ts
        by_cases y : (xs i &&& 63).toInt < 0 ∨ 42 < (xs i &&& 63).toInt
        · rw [if_pos y]
          exact ⟨h, Y, rfl, hK, hO, zFr_rf _ _ _⟩
        · rw [if_neg y]
          exact zl_all (by omega) hL hS hK hO _ (by omega)
      obtain ⟨h2, Y2, e1, K2, O2, F2⟩ := G
      have S2 : zm_g h2 1000000 = .inl (8, L, .inl xs) := (F2.2.2 1000000 (by omega)).trans hS
      obtain ⟨h', e2, F'⟩ := ih (i + 5) h2 Y2 (by omega) (by omega) S2 K2 O2 (zFr_tr F F2)
      refine ⟨h', ?_, F'⟩
      rw [e1, zb197_1512, zm_nx, show nI i + (5 : Int32) = nI (i + 5) from nI_add i 5]
      exact e2
end ZT90
