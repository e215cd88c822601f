section ZT68
variable {h : zm_H} {Y : zy_T} {v n : Nat} {x3 x4 : Int32}
theorem qc_ways (hn : n ≤ 8) : ∀ (k t : Nat) (v6 : Value), t + k = n → ∃ u6, zm_den 15 113 36 [.ref 0, .int (nI v), .int (nI n), .int x3, .int x4, .long (lN (10 ^ t)), v6, .int (nI t)] [] h = zm_den 15 113 56 [.ref 0, .int (nI v), .int (nI n), .int x3, .int x4, .long (lN (10 ^ n)), u6, .int (nI n)] [] h := by
  intro k
  induction k with
  | zero =>
    intro t v6 ht
    have : t = n := by omega
    subst this
    refine ⟨v6, ?_⟩
    rw [zb113_36, if_pos (nI_le (Nat.le_refl _) (by omega)), zm_nx]
  | succ k ih =>
    intro t v6 ht
    obtain ⟨u6, e⟩ := ih (t + 1) .null (by omega)
    refine ⟨u6, ?_⟩
    rw [zb113_36, if_neg (nI_ge (a := t) (b := n) (by omega) (by omega)), zm_nx, zb113_42, zm_nx, nI_1, show (10 : Int64) = lN 10 from rfl, lN_mul, ← Nat.pow_succ]
    exact e
theorem zV_R {p : Nat} {P : zp_T} (hV : zp_V h p P) : zr_V h (p + 1) P := by
  obtain ⟨ad, Q, h1, h2⟩ := hV
  have c := h1.2.2.1
  rw [h2.1] at c
  exact ⟨ad, Q.2.1, c, fun i hi => h2.2.1 i (by rw [h2.1]; exact hi)⟩
theorem zt_luck (x y z : Int32) (hK : zk_K h Y) (hO : zo_K h Y) : zt_L 89 179 [.int x, .int y, .int z] h := by
  have k0 := hK.1
  obtain ⟨kV, kO, kd⟩ := hK.2.1
  obtain ⟨ad, Q, -, -, v1, v2, v3, v4⟩ := zV_row kV
  obtain ⟨A, g, a1, a2, a3, -⟩ := id hO
  have h10 : ¬ (1 : Int32) = 0 := by decide
  have c0 := qc_within (h := h) x 10
  have m0 := fun h : zm_H => qm_in (h := h) x 0 10 (0 : Int64) (10 : Int64) (by decide) (by decide)
  have c1 := qc_within (h := h) y 8
  have m1 := fun h : zm_H => qm_in (h := h) y 0 8 (0 : Int64) (8 : Int64) (by decide) (by decide)
  have c2 := qc_within (h := h) z 1
  have m2 := fun h : zm_H => qm_in (h := h) z 0 1 (0 : Int64) (1 : Int64) (by decide) (by decide)
  rcases zw_in_c x (u := 10) (by decide) with e | ⟨v, hv, ex, e⟩
  · have e' : zw_in x 0 10 = 0 := e
    refine zt_roL (r := -1) hK hO ?_ ?_
    · simp only [zc89, zB89, k0, zc113, zB113, c0, e', zm_nx, zq_rc_o, zq_bi_o, zq_bl_o, zq_bv_o, not_true_eq_false, not_false_eq_true, if_true, if_false, h10, ite_self]
    · simp only [zc179, zB179, m0, e', zm_nx, zq_rc_o, zq_bi_o, zq_bl_o, zq_bv_o, not_true_eq_false, not_false_eq_true, if_true, if_false, h10, ite_self]
  · subst ex
    have e' : zw_in (nI v) 0 10 = 1 := e
    rcases zw_in_c y (u := 8) (by decide) with f | ⟨n, hn, ey, f⟩
    · have f' : zw_in y 0 8 = 0 := f
      refine zt_roL (r := -1) hK hO ?_ ?_
      · simp only [zc89, zB89, k0, zc113, zB113, c0, e', c1, f', zm_nx, zq_rc_o, zq_bi_o, zq_bl_o, zq_bv_o, not_true_eq_false, not_false_eq_true, if_true, if_false, h10, ite_self]
      · simp only [zc179, zB179, m0, e', m1, f', zm_nx, zq_rc_o, zq_bi_o, zq_bl_o, zq_bv_o, not_true_eq_false, not_false_eq_true, if_true, if_false, h10, ite_self]
    · subst ey
      have f' : zw_in (nI n) 0 8 = 1 := f
      rcases zw_in_c z (u := 1) (by decide) with q | ⟨w, hw, ez, q⟩
      · have q' : zw_in z 0 1 = 0 := q
        refine zt_roL (r := -1) hK hO ?_ ?_
        · simp only [zc89, zB89, k0, zc113, zB113, c0, e', c1, f', c2, q', zm_nx, zq_rc_o, zq_bi_o, zq_bl_o, zq_bv_o, not_true_eq_false, not_false_eq_true, if_true, if_false, h10, ite_self]
        · simp only [zc179, zB179, m0, e', m1, f', m2, q', zm_nx, zq_rc_o, zq_bi_o, zq_bl_o, zq_bv_o, not_true_eq_false, not_false_eq_true, if_true, if_false, h10, ite_self]
      · have q' : zw_in z 0 1 = 1 := q
        have pn : 10 ^ n ≤ 100000000 := by
          have : 10 ^ n ≤ 10 ^ 8 := Nat.pow_le_pow_right (by decide) hn
          omega
        have p0 : 0 < 10 ^ n := Nat.pos_of_ne_zero (by
          have := Nat.pow_le_pow_right (n := 10) (by decide) (Nat.zero_le n)
          omega)
        have wl := zp_Wt_le (x := 0) hv n Y.1 kO
        obtain ⟨u6, ways⟩ := qc_ways (h := h) (v := v) (x3 := z) (x4 := 0) hn n 0 .null (by omega)
        have ways' : zm_den 15 113 36 [.ref 0, .int (nI v), .int (nI n), .int z, .int 0, .long 1, .null, .int (0 : Int32)] [] h = _ := ways
        obtain ⟨gs, s1, s2⟩ := hK.2.2.1.2.2.1
        have rows := hK.2.2.1.2.2.2.1
        obtain ⟨ad0, n0, w0, hW⟩ := rows 0 (by decide)
        obtain ⟨h1, b1, b2, b3⟩ := qr_copy (r := 23 + 7 * 0) (q := 1 + 1) (by omega) (rows 0 (by decide)) (zV_R kV)
        have K1 := zk_rw hK (show 0 < 9 by decide) b2 b3
        obtain ⟨h2, w1, w2, w3⟩ := qc_weigh (x4 := 0) hv hn n 0 h1 Y.1 (by omega) kO rfl rfl rfl K1 b2
        have w1' : zm_call 114 [.ref 22, .ref 1, .int (0 : Int32), .int (nI v), .int (nI n), .int 0] h1 = _ := w1
        have ql0 : ∀ f : Nat → zm_O, zq_ql (.inl (4, 9, .inr (.inr (.inr (.inr gs))))) 4 (0 : Int32) f = f (23 + 7 * 0) := fun f => zq_ql_o (j := 0) (by decide) (by decide) (s2 0 (by decide))
        have fr := qc_frac (h := h2) (u := zp_Wt v 0 n Y.1) (d := 10 ^ n) (w := z) (by omega) (by omega) p0
        have F : zm_Fr h h2 11 91 := zFr_tr (zFr_mn b3 (by omega) (by omega)) (zFr_mn w3 (by omega) (by omega))
        refine zt_mkL hO (r := zx_fr (zp_Wt v 0 n Y.1) (10 ^ n) z) ?_ w2 (zFr_mn F (by omega) (by omega)) fun O1 => ?_
        · have E : zm_call 113 [.ref 0, .int (nI v), .int (nI n), .int z, .int 0] h = some (some (.long (zx_fr (zp_Wt v 0 n Y.1) (10 ^ n) z)), h2) := by
            rw [zc113, zm_nx, zb113_0]
            simp only [c0, e', zq_bi_o, h10, if_false, zm_nx]
            rw [zb113_9]
            simp only [c1, f', zq_bi_o, h10, if_false, zm_nx]
            rw [zb113_18]
            simp only [c2, q', zq_bi_o, h10, not_false_eq_true, if_true, zm_nx]
            rw [zb113_30, zm_nx, ways', zb113_56]
            simp only [k0, zkr3, s1, ql0, zkr0, v1, zgr_1_0, hW.2.1, zq_rc_o, b1, zq_bv_o, K1.1, w1', zq_bl_o, fr]
          simp only [zc89, zB89, k0, E, zm_nx, zq_rc_o, zq_bi_o, zq_bl_o, zq_bv_o, not_true_eq_false, not_false_eq_true, if_true, if_false, h10, ite_self]
        obtain ⟨A, g, J, a2⟩ := zo_J0 O1
        obtain ⟨h3, g3, q1, q2, q3⟩ := qm_salt (x3 := 0) (x4 := z) hv hn kO kd (by decide) J a2
        have R := zo_Je (P := Y.1) hK.2.2.2.2.2.1 O1 J.1 q2 q3
        refine ⟨h3, ?_, R.1, R.2⟩
        simp only [zc179, zB179, m0, e', m1, f', m2, q', J.1.1, q1, zm_nx, zq_rc_o, zq_bi_o, zq_bl_o, zq_bv_o, not_true_eq_false, not_false_eq_true, if_true, if_false, h10, ite_self]
theorem zt_mean (x y z : Int32) (hK : zk_K h Y) (hO : zo_K h Y) : zt_L 90 180 [.int x, .int y, .int z] h := by
  have k0 := hK.1
  obtain ⟨kV, kO, kd⟩ := hK.2.1
  obtain ⟨ad, Q, -, -, v1, v2, v3, v4⟩ := zV_row kV
  obtain ⟨A, g, a1, a2, a3, -⟩ := id hO
  have h10 : ¬ (1 : Int32) = 0 := by decide
  have c0 := qc_within (h := h) x 10
  have m0 := fun h : zm_H => qm_in (h := h) x 0 10 (0 : Int64) (10 : Int64) (by decide) (by decide)
  have c1 := qc_within (h := h) y 8
  have m1 := fun h : zm_H => qm_in (h := h) y 0 8 (0 : Int64) (8 : Int64) (by decide) (by decide)
  have c2 := qc_within (h := h) z 1
  have m2 := fun h : zm_H => qm_in (h := h) z 0 1 (0 : Int64) (1 : Int64) (by decide) (by decide)
  rcases zw_in_c x (u := 10) (by decide) with e | ⟨v, hv, ex, e⟩
  · have e' : zw_in x 0 10 = 0 := e
    refine zt_roL (r := -1) hK hO ?_ ?_
    · simp only [zc90, zB90, k0, zc113, zB113, c0, e', zm_nx, zq_rc_o, zq_bi_o, zq_bl_o, zq_bv_o, not_true_eq_false, not_false_eq_true, if_true, if_false, h10, ite_self]
    · simp only [zc180, zB180, m0, e', zm_nx, zq_rc_o, zq_bi_o, zq_bl_o, zq_bv_o, not_true_eq_false, not_false_eq_true, if_true, if_false, h10, ite_self]
  · subst ex
    have e' : zw_in (nI v) 0 10 = 1 := e
    rcases zw_in_c y (u := 8) (by decide) with f | ⟨n, hn, ey, f⟩
    · have f' : zw_in y 0 8 = 0 := f
      refine zt_roL (r := -1) hK hO ?_ ?_
      · simp only [zc90, zB90, k0, zc113, zB113, c0, e', c1, f', zm_nx, zq_rc_o, zq_bi_o, zq_bl_o, zq_bv_o, not_true_eq_false, not_false_eq_true, if_true, if_false, h10, ite_self]
      · simp only [zc180, zB180, m0, e', m1, f', zm_nx, zq_rc_o, zq_bi_o, zq_bl_o, zq_bv_o, not_true_eq_false, not_false_eq_true, if_true, if_false, h10, ite_self]
    · subst ey
      have f' : zw_in (nI n) 0 8 = 1 := f
      rcases zw_in_c z (u := 1) (by decide) with q | ⟨w, hw, ez, q⟩
      · have q' : zw_in z 0 1 = 0 := q
        refine zt_roL (r := -1) hK hO ?_ ?_
        · simp only [zc90, zB90, k0, zc113, zB113, c0, e', c1, f', c2, q', zm_nx, zq_rc_o, zq_bi_o, zq_bl_o, zq_bv_o, not_true_eq_false, not_false_eq_true, if_true, if_false, h10, ite_self]
        · simp only [zc180, zB180, m0, e', m1, f', m2, q', zm_nx, zq_rc_o, zq_bi_o, zq_bl_o, zq_bv_o, not_true_eq_false, not_false_eq_true, if_true, if_false, h10, ite_self]
      · have q' : zw_in z 0 1 = 1 := q
        have pn : 10 ^ n ≤ 100000000 := by
          have : 10 ^ n ≤ 10 ^ 8 := Nat.pow_le_pow_right (by decide) hn
          omega
        have p0 : 0 < 10 ^ n := Nat.pos_of_ne_zero (by
          have := Nat.pow_le_pow_right (n := 10) (by decide) (Nat.zero_le n)
          omega)
        have wl := zp_Wt_le (x := 1) hv n Y.1 kO
        obtain ⟨u6, ways⟩ := qc_ways (h := h) (v := v) (x3 := z) (x4 := 1) hn n 0 .null (by omega)
        have ways' : zm_den 15 113 36 [.ref 0, .int (nI v), .int (nI n), .int z, .int 1, .long 1, .null, .int (0 : Int32)] [] h = _ := ways
        obtain ⟨gs, s1, s2⟩ := hK.2.2.1.2.2.1
        have rows := hK.2.2.1.2.2.2.1
        obtain ⟨ad0, n0, w0, hW⟩ := rows 0 (by decide)
        obtain ⟨h1, b1, b2, b3⟩ := qr_copy (r := 23 + 7 * 0) (q := 1 + 1) (by omega) (rows 0 (by decide)) (zV_R kV)
        have K1 := zk_rw hK (show 0 < 9 by decide) b2 b3
        obtain ⟨h2, w1, w2, w3⟩ := qc_weigh (x4 := 1) hv hn n 0 h1 Y.1 (by omega) kO rfl rfl rfl K1 b2
        have w1' : zm_call 114 [.ref 22, .ref 1, .int (0 : Int32), .int (nI v), .int (nI n), .int 1] h1 = _ := w1
        have ql0 : ∀ f : Nat → zm_O, zq_ql (.inl (4, 9, .inr (.inr (.inr (.inr gs))))) 4 (0 : Int32) f = f (23 + 7 * 0) := fun f => zq_ql_o (j := 0) (by decide) (by decide) (s2 0 (by decide))
        have fr := qc_frac (h := h2) (u := zp_Wt v 1 n Y.1) (d := 10 ^ n) (w := z) (by omega) (by omega) p0
        have F : zm_Fr h h2 11 91 := zFr_tr (zFr_mn b3 (by omega) (by omega)) (zFr_mn w3 (by omega) (by omega))
        refine zt_mkL hO (r := zx_fr (zp_Wt v 1 n Y.1) (10 ^ n) z) ?_ w2 (zFr_mn F (by omega) (by omega)) fun O1 => ?_
        · have E : zm_call 113 [.ref 0, .int (nI v), .int (nI n), .int z, .int 1] h = some (some (.long (zx_fr (zp_Wt v 1 n Y.1) (10 ^ n) z)), h2) := by
            rw [zc113, zm_nx, zb113_0]
            simp only [c0, e', zq_bi_o, h10, if_false, zm_nx]
            rw [zb113_9]
            simp only [c1, f', zq_bi_o, h10, if_false, zm_nx]
            rw [zb113_18]
            simp only [c2, q', zq_bi_o, h10, not_false_eq_true, if_true, zm_nx]
            rw [zb113_30, zm_nx, ways', zb113_56]
            simp only [k0, zkr3, s1, ql0, zkr0, v1, zgr_1_0, hW.2.1, zq_rc_o, b1, zq_bv_o, K1.1, w1', zq_bl_o, fr]
          simp only [zc90, zB90, k0, E, zm_nx, zq_rc_o, zq_bi_o, zq_bl_o, zq_bv_o, not_true_eq_false, not_false_eq_true, if_true, if_false, h10, ite_self]
        obtain ⟨A, g, J, a2⟩ := zo_J0 O1
        obtain ⟨h3, g3, q1, q2, q3⟩ := qm_salt (x3 := 1) (x4 := z) hv hn kO kd (by decide) J a2
        have R := zo_Je (P := Y.1) hK.2.2.2.2.2.1 O1 J.1 q2 q3
        refine ⟨h3, ?_, R.1, R.2⟩
        simp only [zc180, zB180, m0, e', m1, f', m2, q', J.1.1, q1, zm_nx, zq_rc_o, zq_bi_o, zq_bl_o, zq_bv_o, not_true_eq_false, not_false_eq_true, if_true, if_false, h10, ite_self]
end ZT68
