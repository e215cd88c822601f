theorem zx_byte : ∀ n, n < 128 → (nI n).toInt8.toInt32 = nI n := by decide +kernel
section ZT52
variable {h : zm_H} {Y : zy_T}
theorem zt_feed (x : Int32) (hK : zk_K h Y) (hO : zo_K h Y) : zt_R 62 124 [.int x] h := by
  have k0 := hK.1
  obtain ⟨kV, kO, kd⟩ := hK.2.1
  obtain ⟨ad, Q, -, -, v1, v2, v3, v4⟩ := zV_row kV
  obtain ⟨A, g, a1, a2, a3, -⟩ := id hO
  have h10 : ¬ (1 : Int32) = 0 := by decide
  obtain ⟨t0, t1, ⟨ta, tb, tc, td, t2⟩, ⟨gc, t3, t4⟩, t5, t6⟩ := id hK.2.2.2.1
  obtain ⟨ra, rb, rc, rd, t7⟩ := id t5
  have c0 := qc_within (h := h) x 127
  have m0 := fun h : zm_H => qm_in (h := h) x 0 127 (0 : Int64) (127 : Int64) (by decide) (by decide)
  rcases zw_in_c x (u := 127) (by decide) with e | ⟨c, hc, ex, e⟩
  · have e' : zw_in x 0 127 = 0 := e
    refine zt_ro (r := -1) hK hO ?_ ?_
    · simp only [zc62, zB62, c0, e', zm_nx, zq_rc_o, zq_bi_o, zq_bl_o, zq_bv_o, not_true_eq_false, not_false_eq_true, if_true, if_false, h10, ite_self]
    · simp only [zc124, zB124, m0, e', zm_nx, zq_rc_o, zq_bi_o, zq_bl_o, zq_bv_o, not_true_eq_false, not_false_eq_true, if_true, if_false, h10, ite_self]
  · subst ex
    have e' : zw_in (nI c) 0 127 = 1 := e
    by_cases z : Y.2.1.1 = 160
    · have z1 : ¬ nI Y.2.1.1 < (160 : Int32) := by rw [z]; decide
      have z2 : nI Y.2.1.1 = (160 : Int32) := by rw [z]; rfl
      refine zt_ro (r := -3) hK hO ?_ ?_
      · simp only [zc62, zB62, c0, e', k0, zkr6, t7, zgr_5_0, t2, zgi_4_1, z1, zm_nx, zq_rc_o, zq_bi_o, zq_bl_o, zq_bv_o, not_true_eq_false, not_false_eq_true, if_true, if_false, h10, ite_self]
      · simp only [zc124, zB124, m0, e', a1.1, zoi4, a3.1, z2, zm_nx, zq_rc_o, zq_bi_o, zq_bl_o, zq_bv_o, not_true_eq_false, not_false_eq_true, if_true, if_false, h10, ite_self]
    · have hl : Y.2.1.1 < 160 := by omega
      have z1 : nI Y.2.1.1 < (160 : Int32) := nI_lt (b := 160) hl (by decide)
      have z2 : ¬ nI Y.2.1.1 = (160 : Int32) := fun q => z ((nI_eq (b := 160) (by omega) (by decide)).mp q)
      have z3 : ¬ (160 : Int32) ≤ nI Y.2.1.1 := nI_ge (b := 160) hl (by decide)
      have nb : vp_nar .byte ((nI c).toInt8.toInt32) = nI c := by rw [pk_vb, zx_byte c (by omega)]
      obtain ⟨H, eH⟩ : ∃ H, H = zm_s (zm_s h 93 (.inl (1, 160, .inl (upd gc Y.2.1.1 (nI c))))) 92 (.inr (4, [.ref 93, .int (nI (Y.2.1.1 + 1)), .int ta, .int tb, .int tc, .int td])) := ⟨_, rfl⟩
      have kk : ∀ b, b ≠ 92 → b ≠ 93 → zm_g H b = zm_g h b := fun b b1 b2 => by rw [eH, zg_sn b1, zg_sn b2]
      have ap : zm_call 40 [.ref 92, .int (nI c)] h = some (none, H) := by
        rw [eH]
        simp only [zc40, zB40, t2, zgi_4_1, z3, zgr_4_0, t3, zq_as_o hl (show (160 : Nat) < 2 ^ 31 by decide), nb, zg_sn (show 92 ≠ 93 by omega), zpi_4_1, nI_1, zm_nx, zq_rc_o, zq_bi_o, zq_bl_o, zq_bv_o, not_true_eq_false, not_false_eq_true, if_true, if_false, h10, ite_self]
      have tt : ∀ j, j < Y.2.1.1 + 1 → ∀ g : Nat → Int32, (∀ j, j < Y.2.1.1 → g j = Y.2.1.2 j) → upd g Y.2.1.1 (nI c) j = upd Y.2.1.2 Y.2.1.1 (nI c) j := fun j hj g hg => by
        by_cases q : j = Y.2.1.1
        · subst q
          rw [pk_us, pk_us]
        · rw [pk_un q, pk_un q]
          exact hg j (by omega)
      have X1 : zk_X H (Y.2.1.1 + 1, upd Y.2.1.2 Y.2.1.1 (nI c)) := by
        refine ⟨by show Y.2.1.1 + 1 ≤ 160; omega, fun j hj => ?_, ⟨ta, tb, tc, td, by rw [eH, zg_ss]⟩, ⟨upd gc Y.2.1.1 (nI c), by rw [eH, zg_sn (by omega), zg_ss], fun j hj => tt j hj gc t4⟩, ?_, ?_⟩
        · have hj' : j < Y.2.1.1 + 1 := hj
          show ∃ b, b < 128 ∧ upd Y.2.1.2 Y.2.1.1 (nI c) j = nI b
          by_cases q : j = Y.2.1.1
          · subst q
            exact ⟨c, by omega, pk_us⟩
          · rw [pk_un q]
            exact t1 j (by omega)
        · obtain ⟨a, b, c, d, e⟩ := t5
          exact ⟨a, b, c, d, (kk 91 (by omega) (by omega)).trans e⟩
        · obtain ⟨P, hP⟩ := t6
          exact ⟨P, zV_keep hP fun b b1 b2 => kk b (by omega) (by omega)⟩
      have g91 : zm_g H 92 = .inr (4, [.ref 93, .int (nI (Y.2.1.1 + 1)), .int ta, .int tb, .int tc, .int td]) := by rw [eH, zg_ss]
      refine zt_mk hO (r := nI (Y.2.1.1 + 1)) (h1 := H) ?_ (zk_setX hK X1 fun b hb => kk b (by omega) (by omega)) ⟨by rw [eH]; rfl, by rw [eH]; rfl, fun b hb => kk b (by omega) (by omega)⟩ fun O1 => ?_
      · simp only [zc62, zB62, c0, e', k0, zkr6, t7, zgr_5_0, t2, zgi_4_1, z1, ap, (kk 0 (by omega) (by omega)).trans k0, g91, zm_nx, zq_rc_o, zq_bi_o, zq_bl_o, zq_bv_o, not_true_eq_false, not_false_eq_true, if_true, if_false, h10, ite_self]
      obtain ⟨A, g, a1, a2, a3, -, ⟨tr, b1, b2⟩, -⟩ := id O1
      have M1 : zo_M (zm_s (zm_s H 140 (.inl (0, 160, .inl (upd tr Y.2.1.1 (nI c))))) 137 (.inr (7, zo_c 137 (upd A 4 (nI (Y.2.1.1 + 1)))))) 137 (upd A 4 (nI (Y.2.1.1 + 1))) g := ⟨zg_ss, by rw [zg_sn (by omega), zg_sn (by omega)]; exact a1.2⟩
      refine ⟨_, ?_, zo_setX (t := (Y.2.1.1 + 1, upd Y.2.1.2 Y.2.1.1 (nI c))) O1 a1 M1 ⟨_, by rw [zg_sn (by omega), zg_ss], fun j hj => tt j hj tr b2⟩ fun b b1 b2 b3 => by rw [zg_sn (by omega), zg_sn (by omega)], ?_⟩
      · have b1' : zm_g H (137 + 3) = .inl (0, 160, .inl tr) := b1
        have u4 : upd A 4 (nI (Y.2.1.1 + 1)) 4 = nI (Y.2.1.1 + 1) := pk_us
        simp only [zc124, zB124, m0, e', a1.1, zoi4, a3.1, z2, zor3, b1', zq_as_o hl (show (160 : Nat) < 2 ^ 31 by decide), zg_sn (show 137 ≠ 137 + 3 by omega), zop4, nI_1, zg_ss, u4, zm_nx, zq_rc_o, zq_bi_o, zq_bl_o, zq_bv_o, not_true_eq_false, not_false_eq_true, if_true, if_false, h10, ite_self]
      · exact zFr_tr (zFr_s (by omega) (by omega)) (zFr_s (by omega) (by omega))
theorem zt_end (x : Int32) (hK : zk_K h Y) (hO : zo_K h Y) : zt_R 63 125 [.int x] h := by
  have k0 := hK.1
  obtain ⟨kV, kO, kd⟩ := hK.2.1
  obtain ⟨ad, Q, -, -, v1, v2, v3, v4⟩ := zV_row kV
  obtain ⟨A, g, a1, a2, a3, -⟩ := id hO
  have h10 : ¬ (1 : Int32) = 0 := by decide
  obtain ⟨t0, t1, ⟨ta, tb, tc, td, t2⟩, ⟨gc, t3, t4⟩, t5, t6⟩ := id hK.2.2.2.1
  obtain ⟨ra, rb, rc, rd, t7⟩ := id t5
  have c0 := qc_within (h := h) x (nI Y.2.1.1)
  have m0 := fun h : zm_H => qm_in (h := h) x 0 (nI Y.2.1.1) (0 : Int64) (nI Y.2.1.1).toInt64 (by decide) rfl
  rcases zw_in_c x (u := Y.2.1.1) (by omega) with e | ⟨n, hn, ex, e⟩
  · refine zt_ro (r := -1) hK hO ?_ ?_
    · simp only [zc63, zB63, k0, zkr6, t7, zgr_5_0, t2, zgi_4_1, c0, e, zm_nx, zq_rc_o, zq_bi_o, zq_bl_o, zq_bv_o, not_true_eq_false, not_false_eq_true, if_true, if_false, h10, ite_self]
    · simp only [zc125, zB125, a1.1, zoi4, a3.1, m0, e, zm_nx, zq_rc_o, zq_bi_o, zq_bl_o, zq_bv_o, not_true_eq_false, not_false_eq_true, if_true, if_false, h10, ite_self]
  · subst ex
    have X1 : zk_X (zm_s h 92 (.inr (4, [.ref 93, .int (nI n), .int ta, .int tb, .int tc, .int td]))) (n, Y.2.1.2) := by
      refine ⟨by show n ≤ 160; omega, fun j hj => t1 j (Nat.lt_of_lt_of_le hj hn), ⟨ta, tb, tc, td, zg_ss⟩, ⟨gc, by rw [zg_sn (by omega)]; exact t3, fun j hj => t4 j (Nat.lt_of_lt_of_le hj hn)⟩, ?_, ?_⟩
      · obtain ⟨a, b, c, d, e⟩ := t5
        exact ⟨a, b, c, d, by rw [zg_sn (by omega)]; exact e⟩
      · obtain ⟨P, hP⟩ := t6
        exact ⟨P, zV_keep hP fun b b1 b2 => zg_sn (by omega)⟩
    refine zt_mk hO (r := nI Y.2.1.1) ?_ (zk_setX hK X1 fun b hb => zg_sn (by omega)) (zFr_s (by omega) (by omega)) fun O1 => ?_
    · simp only [zc63, zB63, k0, zkr6, t7, zgr_5_0, t2, zgi_4_1, c0, e, zpi_4_1, zm_nx, zq_rc_o, zq_bi_o, zq_bl_o, zq_bv_o, not_true_eq_false, not_false_eq_true, if_true, if_false, h10, ite_self]
    obtain ⟨A, g, a1, a2, a3, -, ⟨tr, b1, b2⟩, -⟩ := id O1
    refine ⟨zm_s _ 137 (.inr (7, zo_c 137 (upd A 4 (nI n)))), ?_, zo_setX (t := (n, Y.2.1.2)) O1 a1 ⟨zg_ss, by rw [zg_sn (by omega)]; exact a1.2⟩ ⟨tr, by rw [zg_sn (by omega)]; exact b1, fun j hj => b2 j (Nat.lt_of_lt_of_le hj hn)⟩ fun b b1 b2 b3 => zg_sn (by omega), zFr_s (by omega) (by omega)⟩
    simp only [zc125, zB125, a1.1, zoi4, a3.1, m0, e, zop4, zm_nx, zq_rc_o, zq_bi_o, zq_bl_o, zq_bv_o, not_true_eq_false, not_false_eq_true, if_true, if_false, h10, ite_self]
theorem zt_forget (x : Int32) (hK : zk_K h Y) (hO : zo_K h Y) : zt_R 92 182 [.int x] h := by
  have k0 := hK.1
  obtain ⟨kV, kO, kd⟩ := hK.2.1
  obtain ⟨ad, Q, -, -, v1, v2, v3, v4⟩ := zV_row kV
  obtain ⟨A, g, a1, a2, a3, -⟩ := id hO
  have h10 : ¬ (1 : Int32) = 0 := by decide
  obtain ⟨t0, t1, t2, t3⟩ := id hK.2.2.2.2.1
  have c0 := qc_within (h := h) x (nI Y.2.2.2.1.1)
  have m0 := fun h : zm_H => qm_in (h := h) x 0 (nI Y.2.2.2.1.1) (0 : Int64) (nI Y.2.2.2.1.1).toInt64 (by decide) rfl
  rcases zw_in_c x (u := Y.2.2.2.1.1) (by omega) with e | ⟨n, hn, ex, e⟩
  · refine zt_ro (r := -1) hK hO ?_ ?_
    · simp only [zc92, zB92, k0, zki10, c0, e, zm_nx, zq_rc_o, zq_bi_o, zq_bl_o, zq_bv_o, not_true_eq_false, not_false_eq_true, if_true, if_false, h10, ite_self]
    · simp only [zc182, zB182, a1.1, zoi19, a3.2.2.1, m0, e, zm_nx, zq_rc_o, zq_bi_o, zq_bl_o, zq_bv_o, not_true_eq_false, not_false_eq_true, if_true, if_false, h10, ite_self]
  · subst ex
    have E1 : zk_E (zm_s h 0 (.inr (6, zk_c Y.2.2.1.1 (nI n) Y.2.2.1.2))) (n, Y.2.2.2.1.2) := by
      obtain ⟨g1, r1, r2⟩ := t1
      obtain ⟨g2, r3, r4⟩ := t2
      exact ⟨by show n ≤ 6; omega, ⟨g1, by rw [zg_sn (by omega)]; exact r1, fun j hj => r2 j (Nat.lt_of_lt_of_le hj hn)⟩, ⟨g2, by rw [zg_sn (by omega)]; exact r3, fun j hj => r4 j (Nat.lt_of_lt_of_le hj hn)⟩, fun j hj => t3 j (Nat.lt_of_lt_of_le hj hn)⟩
    refine zt_mk hO (r := nI Y.2.2.2.1.1) ?_ (zk_setE hK zg_ss E1 fun b b1 b2 b3 => zg_sn b1) (zFr_s (by omega) (by omega)) fun O1 => ?_
    · simp only [zc92, zB92, k0, zki10, c0, e, zkp10, zm_nx, zq_rc_o, zq_bi_o, zq_bl_o, zq_bv_o, not_true_eq_false, not_false_eq_true, if_true, if_false, h10, ite_self]
    obtain ⟨A, g, a1, a2, a3, -, -, -, -, -, ⟨tr, b1, b2⟩, -⟩ := id O1
    refine ⟨zm_s _ 137 (.inr (7, zo_c 137 (upd A 19 (nI n)))), ?_, zo_setE (s := (n, Y.2.2.2.1.2)) O1 a1 ⟨zg_ss, by rw [zg_sn (by omega)]; exact a1.2⟩ ⟨tr, by rw [zg_sn (by omega)]; exact b1, fun j hj => b2 j (Nat.lt_of_lt_of_le hj hn)⟩ fun b b1 b2 b3 => zg_sn (by omega), zFr_s (by omega) (by omega)⟩
    simp only [zc182, zB182, a1.1, zoi19, a3.2.2.1, m0, e, zop19, zm_nx, zq_rc_o, zq_bi_o, zq_bl_o, zq_bv_o, not_true_eq_false, not_false_eq_true, if_true, if_false, h10, ite_self]
theorem zt_see_g {a : Nat} {y : Int32} (ha : a ≤ 30) (hy : ∃ b, b < 10 ∧ y = nI b) (hK : zk_K h Y) (hO : zo_K h Y) (e1 : zm_call 91 [.ref 0, .int (nI a), .int y] h = zm_den 2 91 25 [.ref 0, .int (nI a), .int y] [] h) (e2 : ∀ h, zm_call 181 [.ref 137, .int (nI a), .int y] h = zm_den 2 181 32 [.ref 137, .int (nI a), .int y] [] h) : zt_R 91 181 [.int (nI a), .int y] h := by
  have k0 := hK.1
  obtain ⟨kV, kO, kd⟩ := hK.2.1
  obtain ⟨ad, Q, -, -, v1, v2, v3, v4⟩ := zV_row kV
  obtain ⟨A, g, a1, a2, a3, -⟩ := id hO
  have h10 : ¬ (1 : Int32) = 0 := by decide
  obtain ⟨t0, ⟨g1, r1, r2⟩, ⟨g2, r3, r4⟩, t3⟩ := id hK.2.2.2.2.1
  have h6 : (6 : Nat) < 2 ^ 31 := by decide
  have h12 : (12 : Nat) < 2 ^ 31 := by decide
  by_cases z : Y.2.2.2.1.1 = 6
  · have z1 : ¬ nI Y.2.2.2.1.1 < (6 : Int32) := by rw [z]; decide
    have z2 : nI Y.2.2.2.1.1 = (6 : Int32) := by rw [z]; rfl
    refine zt_ro (r := -3) hK hO (e1.trans ?_) ((e2 h).trans ?_)
    · simp only [zB91, k0, zki10, z1, zm_nx, zq_rc_o, zq_bi_o, zq_bl_o, zq_bv_o, not_true_eq_false, not_false_eq_true, if_true, if_false, h10, ite_self]
    · simp only [zB181, a1.1, zoi19, a3.2.2.1, z2, zm_nx, zq_rc_o, zq_bi_o, zq_bl_o, zq_bv_o, not_true_eq_false, not_false_eq_true, if_true, if_false, h10, ite_self]
  · have hl : Y.2.2.2.1.1 < 6 := by omega
    have z1 : nI Y.2.2.2.1.1 < (6 : Int32) := nI_lt (b := 6) hl (by decide)
    have z2 : ¬ nI Y.2.2.2.1.1 = (6 : Int32) := fun q => z ((nI_eq (b := 6) (by omega) (by decide)).mp q)
    obtain ⟨H, eH⟩ : ∃ H, H = zm_s (zm_s (zm_s h 104 (.inl (0, 6, .inl (upd g1 Y.2.2.2.1.1 (nI a))))) 105 (.inl (0, 6, .inl (upd g2 Y.2.2.2.1.1 y)))) 0 (.inr (6, zk_c Y.2.2.1.1 (nI (Y.2.2.2.1.1 + 1)) Y.2.2.1.2)) := ⟨_, rfl⟩
    have kk : ∀ b, b ≠ 0 → b ≠ 104 → b ≠ 105 → zm_g H b = zm_g h b := fun b b1 b2 b3 => by rw [eH, zg_sn b1, zg_sn b3, zg_sn b2]
    have tt : ∀ j, j < Y.2.2.2.1.1 + 1 → ∀ (g d : Nat → Int32) (x : Int32), (∀ j, j < Y.2.2.2.1.1 → g j = d j) → upd g Y.2.2.2.1.1 x j = upd d Y.2.2.2.1.1 x j := fun j hj g d x hg => by
      by_cases q : j = Y.2.2.2.1.1
      · subst q
        rw [pk_us, pk_us]
      · rw [pk_un q, pk_un q]
        exact hg j (by omega)
    have E1 : zk_E H (Y.2.2.2.1.1 + 1, upd Y.2.2.2.1.2.1 Y.2.2.2.1.1 (nI a), upd Y.2.2.2.1.2.2 Y.2.2.2.1.1 y) := by
      refine ⟨by show Y.2.2.2.1.1 + 1 ≤ 6; omega, ⟨_, by rw [eH, zg_sn (by omega), zg_sn (by omega), zg_ss], fun j hj => tt j hj _ _ _ r2⟩, ⟨_, by rw [eH, zg_sn (by omega), zg_ss], fun j hj => tt j hj _ _ _ r4⟩, fun j hj => ?_⟩
      have hj' : j < Y.2.2.2.1.1 + 1 := hj
      show (∃ c, c < 31 ∧ upd Y.2.2.2.1.2.1 Y.2.2.2.1.1 (nI a) j = nI c) ∧ ∃ c, c < 10 ∧ upd Y.2.2.2.1.2.2 Y.2.2.2.1.1 y j = nI c
      by_cases q : j = Y.2.2.2.1.1
      · subst q
        rw [pk_us, pk_us]
        exact ⟨⟨a, by omega, rfl⟩, hy⟩
      · rw [pk_un q, pk_un q]
        exact t3 j (by omega)
    refine zt_mk hO (r := nI (Y.2.2.2.1.1 + 1)) (h1 := H) (e1.trans ?_) (zk_setE hK (by rw [eH, zg_ss]) E1 kk) ⟨by rw [eH]; rfl, by rw [eH]; rfl, fun b hb => kk b (by omega) (by omega) (by omega)⟩ fun O1 => ?_
    · rw [eH]
      simp only [zB91, k0, zki10, z1, zkr8, zkr9, r1, r3, zq_as_o hl h6, zg_sn (show 0 ≠ 104 by omega), zg_sn (show 0 ≠ 105 by omega), zg_sn (show 105 ≠ 104 by omega), zkp10, nI_1, zg_ss, zm_nx, zq_rc_o, zq_bi_o, zq_bl_o, zq_bv_o, not_true_eq_false, not_false_eq_true, if_true, if_false, h10, ite_self]
    obtain ⟨A, g, a1, a2, a3, -, -, -, -, -, ⟨tr, b1, b2⟩, -⟩ := id O1
    have b1' : zm_g H (137 + 7) = .inl (0, 12, .inl tr) := b1
    have s1 : ∀ (g : Nat → Int32) (x : Int32) (f : va_E → zm_O), zq_as (.inl (0, 12, .inl g)) 0 ((2 : Int32) * nI Y.2.2.2.1.1) x f = f (.inl (0, 12, .inl (upd g (2 * Y.2.2.2.1.1) x))) := fun g x f => by
      rw [show (2 : Int32) = nI 2 from rfl, pk_mul]
      exact zq_as_o (by omega) h12
    have s2 : ∀ (g : Nat → Int32) (x : Int32) (f : va_E → zm_O), zq_as (.inl (0, 12, .inl g)) 0 ((2 : Int32) * nI Y.2.2.2.1.1 + 1) x f = f (.inl (0, 12, .inl (upd g (2 * Y.2.2.2.1.1 + 1) x))) := fun g x f => by
      rw [show (2 : Int32) = nI 2 from rfl, pk_mul, nI_1]
      exact zq_as_o (by omega) h12
    have u19 : upd A 19 (nI (Y.2.2.2.1.1 + 1)) 19 = nI (Y.2.2.2.1.1 + 1) := pk_us
    obtain ⟨T, eT⟩ : ∃ T, T = upd (upd tr (2 * Y.2.2.2.1.1) (nI a)) (2 * Y.2.2.2.1.1 + 1) (if y = 9 then -4 else y) := ⟨_, rfl⟩
    refine ⟨zm_s (zm_s H 144 (.inl (0, 12, .inl T))) 137 (.inr (7, zo_c 137 (upd A 19 (nI (Y.2.2.2.1.1 + 1))))), (e2 H).trans ?_, zo_setE (s := (Y.2.2.2.1.1 + 1, upd Y.2.2.2.1.2.1 Y.2.2.2.1.1 (nI a), upd Y.2.2.2.1.2.2 Y.2.2.2.1.1 y)) O1 a1 ⟨zg_ss, by rw [zg_sn (by omega), zg_sn (by omega)]; exact a1.2⟩ ⟨T, by rw [zg_sn (by omega), zg_ss], fun j hj => ?_⟩ fun b b1 b2 b3 => by rw [zg_sn (by omega), zg_sn (by omega)], zFr_tr (zFr_s (by omega) (by omega)) (zFr_s (by omega) (by omega))⟩
    · rw [eT]
      simp only [zB181, a1.1, zoi19, a3.2.2.1, z2, zor18, b1', s1, zg_sn (show 137 ≠ 137 + 7 by omega), zm_nx, zq_rc_o, zq_bi_o, zq_bl_o, zq_bv_o, not_true_eq_false, not_false_eq_true, if_true, if_false, h10, ite_self]
      by_cases y9 : y = 9
      · simp only [y9, zB181, zg_ss, s2, zs_ss, zg_sn (show 137 ≠ 137 + 7 by omega), a1.1, zoi19, a3.2.2.1, zop19, nI_1, u19, zm_nx, zq_rc_o, zq_bi_o, zq_bl_o, zq_bv_o, not_true_eq_false, not_false_eq_true, if_true, if_false, h10, ite_self]
      · simp only [y9, zB181, zg_ss, s2, zs_ss, zg_sn (show 137 ≠ 137 + 7 by omega), a1.1, zoi19, a3.2.2.1, zop19, nI_1, u19, zm_nx, zq_rc_o, zq_bi_o, zq_bl_o, zq_bv_o, not_true_eq_false, not_false_eq_true, if_true, if_false, h10, ite_self]
    · have hj' : j < Y.2.2.2.1.1 + 1 := hj
      show T (2 * j) = upd Y.2.2.2.1.2.1 Y.2.2.2.1.1 (nI a) j ∧ T (2 * j + 1) = if upd Y.2.2.2.1.2.2 Y.2.2.2.1.1 y j = 9 then -4 else upd Y.2.2.2.1.2.2 Y.2.2.2.1.1 y j
      rw [eT]
      by_cases q : j = Y.2.2.2.1.1
      · subst q
        rw [pk_us, pk_us, pk_us, pk_un (by omega), pk_us]
        exact ⟨rfl, rfl⟩
      · rw [pk_un q, pk_un q, pk_un (by omega), pk_un (by omega), pk_un (by omega), pk_un (by omega)]
        exact b2 j (by omega)
theorem zt_see (x y : Int32) (hK : zk_K h Y) (hO : zo_K h Y) : zt_R 91 181 [.int x, .int y] h := by
  have h10 : ¬ (1 : Int32) = 0 := by decide
  have c0 := qc_within (h := h) x 30
  have m0 := fun h : zm_H => qm_in (h := h) x 0 30 (0 : Int64) (30 : Int64) (by decide) (by decide)
  have c1 := qc_within (h := h) y 3
  have m1 := fun h : zm_H => qm_in (h := h) y 0 3 (0 : Int64) (3 : Int64) (by decide) (by decide)
  rcases zw_in_c x (u := 30) (by decide) with e | ⟨a, ha, ex, e⟩
  · have e' : zw_in x 0 30 = 0 := e
    refine zt_ro (r := -1) hK hO ?_ ?_
    · simp only [zc91, zB91, c0, e', zm_nx, zq_rc_o, zq_bi_o, zq_bl_o, zq_bv_o, not_true_eq_false, not_false_eq_true, if_true, if_false, h10, ite_self]
    · simp only [zc181, zB181, m0, e', zm_nx, zq_rc_o, zq_bi_o, zq_bl_o, zq_bv_o, not_true_eq_false, not_false_eq_true, if_true, if_false, h10, ite_self]
  · subst ex
    have e' : zw_in (nI a) 0 30 = 1 := e
    rcases zw_in_c y (u := 3) (by decide) with f | ⟨b, hb, ey, f⟩
    · have f' : zw_in y 0 3 = 0 := f
      by_cases y9 : y = 9
      · refine zt_see_g ha ⟨9, by decide, y9⟩ hK hO ?_ fun h => ?_
        · rw [zc91, zm_nx, zb91_0]
          simp only [c0, e', zb91_9, c1, f', zb91_17, eq_true y9, zm_nx, zq_rc_o, zq_bi_o, zq_bl_o, zq_bv_o, not_true_eq_false, not_false_eq_true, if_true, if_false, h10, ite_self]
        · rw [zc181, zm_nx, zb181_0]
          simp only [m0, e', zb181_12, m1, f', zb181_24, eq_true y9, zm_nx, zq_rc_o, zq_bi_o, zq_bl_o, zq_bv_o, not_true_eq_false, not_false_eq_true, if_true, if_false, h10, ite_self]
      · refine zt_ro (r := -1) hK hO ?_ ?_
        · simp only [zc91, zB91, c0, e', c1, f', y9, zm_nx, zq_rc_o, zq_bi_o, zq_bl_o, zq_bv_o, not_true_eq_false, not_false_eq_true, if_true, if_false, h10, ite_self]
        · simp only [zc181, zB181, m0, e', m1, f', y9, zm_nx, zq_rc_o, zq_bi_o, zq_bl_o, zq_bv_o, not_true_eq_false, not_false_eq_true, if_true, if_false, h10, ite_self]
    · have f' : zw_in y 0 3 = 1 := f
      refine zt_see_g ha ⟨b, by omega, ey⟩ hK hO ?_ fun h => ?_
      · rw [zc91, zm_nx, zb91_0]
        simp only [c0, e', zb91_9, c1, f', zm_nx, zq_rc_o, zq_bi_o, zq_bl_o, zq_bv_o, not_true_eq_false, not_false_eq_true, if_true, if_false, h10, ite_self]
      · rw [zc181, zm_nx, zb181_0]
        simp only [m0, e', zb181_12, m1, f', zm_nx, zq_rc_o, zq_bi_o, zq_bl_o, zq_bv_o, not_true_eq_false, not_false_eq_true, if_true, if_false, h10, ite_self]
end ZT52
