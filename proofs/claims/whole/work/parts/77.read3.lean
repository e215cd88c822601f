section ZT77
variable {h h0 : zm_H} {Y : zy_T} {A0 g0 A g : Nat → Int32} {P : zp_T}
theorem zt_read_0 {f : Int32} {k l : Nat} (hk : k < 4) (hl : l < 3) (hK : zk_K h Y) (hO : zo_K h Y) (e1 : ∀ n : Int32, n = 0 → zm_call 102 [.ref 0, .int (nI k), .int (nI l), .int f, .int n] h = zm_den 3 102 28 [.ref 0, .int (nI k), .int (nI l), .int f, .int n, .null, .null, .null, .null, .null] [] h) (e2 : ∀ (h : zm_H) (n : Int32), n = 0 → zm_call 194 [.ref 137, .int (nI k), .int (nI l), .int f, .int n] h = zm_den 3 194 39 [.ref 137, .int (nI k), .int (nI l), .int f, .int n, .null, .null, .null, .null] [] h) : zt_R 102 194 [.int (nI k), .int (nI l), .int f, .int 0] h := by
  have k0 := hK.1
  obtain ⟨kV, kO, kd⟩ := hK.2.1
  obtain ⟨ad, Q, -, -, v1, v2, v3, v4⟩ := zV_row kV
  obtain ⟨A, g, a1, a2, a3, -⟩ := id hO
  have h10 : ¬ (1 : Int32) = 0 := by decide
  obtain ⟨⟨gs, s1, s2⟩, s3, s4, s5⟩ := id hK.2.2.2.2.2.2
  have F1 : zm_Fr h (zm_s h 0 (.inr (6, zk_c Y.2.2.1.1 (nI Y.2.2.2.1.1) 0))) 0 137 := zFr_s (by omega) (by omega)
  refine zt_mk hO (r := 0) ((e1 0 rfl).trans ?_) (zk_setR hK zg_ss fun b hb => zg_sn hb) F1 fun O1 => ?_
  · rw [zb102_28]
    simp only [k0, zkr13, s1, zq_ql_o hk (show (4 : Nat) < 2 ^ 31 by decide) (s2 k hk), zkr0, v1, zgr_1_0, v2, zgi_2_1, zm_nx]
    rw [zb102_51, if_pos (by decide), zm_nx, zb102_140]
    simp only [k0, zkp14]
  obtain ⟨A, g, J, a2⟩ := zo_J0 O1
  obtain ⟨h4, g4, c1, c2, c3, c4⟩ := zo_Jc J a2 v3 (t := 93) (by omega)
  have c1' : zm_call 160 [.ref 137, .int (0 : Int32), .int (93 : Int32)] (zm_s h 0 (.inr (6, zk_c Y.2.2.1.1 (nI Y.2.2.2.1.1) 0))) = some (none, h4) := c1
  have R := zo_Je (P := Y.1) hK.2.2.2.2.2.1 O1 J.1 c2 (zs_Pk a2 v3 fun q _ _ => c4 q (by omega))
  refine ⟨zm_s h4 137 (.inr (7, zo_c 137 (upd A 25 0))), ((e2 _ 0 rfl).trans ?_), zo_setR R.1 c2.1 ⟨zg_ss, by rw [zg_sn (by omega)]; exact c2.1.2⟩ fun b b1 b2 => zg_sn (by omega), zFr_tr R.2 (zFr_s (by omega) (by omega))⟩
  rw [zb194_39]
  simp only [J.1.1, zq_rc_o, c1', zq_bv_o, zm_nx]
  rw [zb194_55, if_pos (by decide), zm_nx, zb194_196]
  simp only [c2.1.1, zop25]
theorem zt_read_b {f c : Int32} {k l n : Nat} (hk : k < 4) (hl : l < 3) (hn0 : 0 < n) (hn : n ≤ 20) (hc : ¬ c = 0) (hK : zk_K h Y) (hO : zo_K h Y) (e1 : zm_call 102 [.ref 0, .int (nI k), .int (nI l), .int f, .int (nI n)] h = zm_den 3 102 28 [.ref 0, .int (nI k), .int (nI l), .int f, .int (nI n), .null, .null, .null, .null, .null] [] h) (e2 : ∀ h : zm_H, zm_call 194 [.ref 137, .int (nI k), .int (nI l), .int f, .int (nI n)] h = zm_den 3 194 39 [.ref 137, .int (nI k), .int (nI l), .int f, .int (nI n), .null, .null, .null, .null] [] h) (f1 : zx_fa (Y.2.2.2.2.2 k).1 (nI l) f (Y.2.2.2.2.2 k).2.1 = c) (f2 : ∀ h A g, zo_M h 137 A g → zo_K h Y → zm_den 3 194 69 [.ref 137, .int (nI k), .int (nI l), .int f, .int (nI n), .int 0, .int 0, .int 0, .null] [] h = zm_den 3 194 125 [.ref 137, .int (nI k), .int (nI l), .int f, .int (nI n), .int 0, .int 0, .int 0, .null] [.int c] h) : zt_R 102 194 [.int (nI k), .int (nI l), .int f, .int (nI n)] h := by
  have k0 := hK.1
  obtain ⟨kV, kO, kd⟩ := hK.2.1
  obtain ⟨ad, Q, -, -, v1, v2, v3, v4⟩ := zV_row kV
  obtain ⟨A, g, a1, a2, a3, -⟩ := id hO
  have h10 : ¬ (1 : Int32) = 0 := by decide
  obtain ⟨⟨gs, s1, s2⟩, s3, s4, s5⟩ := id hK.2.2.2.2.2.2
  have F1 : zm_Fr h (zm_s h 0 (.inr (6, zk_c Y.2.2.1.1 (nI Y.2.2.2.1.1) c))) 0 137 := zFr_s (by omega) (by omega)
  have fp := qc_fp (x := f) (i := 0) (l := nI l) (s3 k hk)
  rw [f1, if_neg hc] at fp
  refine zt_mk hO (r := 0) (e1.trans ?_) (zk_setR hK zg_ss fun b hb => zg_sn hb) F1 fun O1 => ?_
  · rw [zb102_28]
    simp only [k0, zkr13, s1, zq_ql_o hk (show (4 : Nat) < 2 ^ 31 by decide) (s2 k hk), zkr0, v1, zgr_1_0, v2, zgi_2_1, zm_nx]
    rw [zb102_51, if_neg (show ¬ nI n ≤ 0 from nI_nle hn0 (by omega)), zm_nx, zb102_58]
    simp only [s3 k hk, zq_rc_o, fp, zq_bi_o, zm_nx]
    rw [if_neg hc, zb102_74]
    simp only [k0, zkp14]
  obtain ⟨A, g, J, a2⟩ := zo_J0 O1
  obtain ⟨h4, g4, c1, c2, c3, c4⟩ := zo_Jc J a2 v3 (t := 93) (by omega)
  have c1' : zm_call 160 [.ref 137, .int (0 : Int32), .int (93 : Int32)] (zm_s h 0 (.inr (6, zk_c Y.2.2.1.1 (nI Y.2.2.2.1.1) c))) = some (none, h4) := c1
  have R := zo_Je (P := Y.1) hK.2.2.2.2.2.1 O1 J.1 c2 (zs_Pk a2 v3 fun q _ _ => c4 q (by omega))
  have T := f2 h4 A g4 c2.1 R.1
  refine ⟨zm_s h4 137 (.inr (7, zo_c 137 (upd A 25 c))), ((e2 _).trans ?_), zo_setR R.1 c2.1 ⟨zg_ss, by rw [zg_sn (by omega)]; exact c2.1.2⟩ fun b b1 b2 => zg_sn (by omega), zFr_tr R.2 (zFr_s (by omega) (by omega))⟩
  rw [zb194_39]
  simp only [J.1.1, zq_rc_o, c1', zq_bv_o, zm_nx]
  rw [zb194_55, show (2 : Int32) * nI n = nI (2 * n) from pk_mul 2 n, if_neg (show ¬ nI (2 * n) ≤ 0 from nI_nle (by omega) (by omega)), zm_nx, zb194_64, if_neg (by decide), zm_nx, T, zb194_125, if_pos hc, zm_nx, zb194_190, zm_nx, zb194_55, show (2 : Int32) * nI n = nI (2 * n) from pk_mul 2 n, if_neg (show ¬ nI (2 * n) ≤ (0 : Int32) + 1 from nI_ge (a := 1) (by omega) (by omega)), zm_nx, zb194_64, if_pos hc, zm_nx, zb194_196]
  simp only [c2.1.1, zop25]
theorem zt_read (x y f w : Int32) (hK : zk_K h Y) (hO : zo_K h Y) : zt_R 102 194 [.int x, .int y, .int f, .int w] h := by
  have k0 := hK.1
  obtain ⟨kV, kO, kd⟩ := hK.2.1
  obtain ⟨ad, Q, -, -, v1, v2, v3, v4⟩ := zV_row kV
  obtain ⟨A, g, a1, a2, a3, -⟩ := id hO
  have h10 : ¬ (1 : Int32) = 0 := by decide
  obtain ⟨⟨gs, s1, s2⟩, s3, s4, s5⟩ := id hK.2.2.2.2.2.2
  have c0 := qc_within (h := h) x 3
  have m0 := fun h : zm_H => qm_in (h := h) x 0 3 (0 : Int64) (3 : Int64) (by decide) (by decide)
  have c1 := qc_within (h := h) y 2
  have m1 := fun h : zm_H => qm_in (h := h) y 0 2 (0 : Int64) (2 : Int64) (by decide) (by decide)
  have c2 := qc_within (h := h) w 20
  have m2 := fun h : zm_H => qm_in (h := h) w 0 20 (0 : Int64) (20 : Int64) (by decide) (by decide)
  rcases zw_in_c x (u := 3) (by decide) with e | ⟨k, hk, ex, e⟩
  · have e' : zw_in x 0 3 = 0 := e
    refine zt_ro (r := -1) hK hO ?_ ?_
    · simp only [zc102, zB102, c0, e', zm_nx, zq_rc_o, zq_bi_o, zq_bl_o, zq_bv_o, not_true_eq_false, not_false_eq_true, if_true, if_false, h10, ite_self]
    · simp only [zc194, zB194, m0, e', zm_nx, zq_rc_o, zq_bi_o, zq_bl_o, zq_bv_o, not_true_eq_false, not_false_eq_true, if_true, if_false, h10, ite_self]
  · subst ex
    have e' : zw_in (nI k) 0 3 = 1 := e
    rcases zw_in_c y (u := 2) (by decide) with q | ⟨l, hl, ey, q⟩
    · have q' : zw_in y 0 2 = 0 := q
      refine zt_ro (r := -1) hK hO ?_ ?_
      · simp only [zc102, zB102, c0, e', c1, q', zm_nx, zq_rc_o, zq_bi_o, zq_bl_o, zq_bv_o, not_true_eq_false, not_false_eq_true, if_true, if_false, h10, ite_self]
      · simp only [zc194, zB194, m0, e', m1, q', zm_nx, zq_rc_o, zq_bi_o, zq_bl_o, zq_bv_o, not_true_eq_false, not_false_eq_true, if_true, if_false, h10, ite_self]
    · subst ey
      have q' : zw_in (nI l) 0 2 = 1 := q
      rcases zw_in_c w (u := 20) (by decide) with p | ⟨n, hn, ew, p⟩
      · have p' : zw_in w 0 20 = 0 := p
        refine zt_ro (r := -1) hK hO ?_ ?_
        · simp only [zc102, zB102, c0, e', c1, q', c2, p', zm_nx, zq_rc_o, zq_bi_o, zq_bl_o, zq_bv_o, not_true_eq_false, not_false_eq_true, if_true, if_false, h10, ite_self]
        · simp only [zc194, zB194, m0, e', m1, q', m2, p', zm_nx, zq_rc_o, zq_bi_o, zq_bl_o, zq_bv_o, not_true_eq_false, not_false_eq_true, if_true, if_false, h10, ite_self]
      · have p' : zw_in w 0 20 = 1 := p
        have E1 : zm_call 102 [.ref 0, .int (nI k), .int (nI l), .int f, .int w] h = zm_den 3 102 28 [.ref 0, .int (nI k), .int (nI l), .int f, .int w, .null, .null, .null, .null, .null] [] h := by
          rw [zc102, zm_nx, zb102_0]
          simp only [c0, e', zq_bi_o, h10, if_false, zm_nx]
          rw [zb102_8]
          simp only [c1, q', zq_bi_o, h10, if_false, zm_nx]
          rw [zb102_16]
          simp only [c2, p', zq_bi_o, h10, not_false_eq_true, if_true, zm_nx]
        have E2 : ∀ h : zm_H, zm_call 194 [.ref 137, .int (nI k), .int (nI l), .int f, .int w] h = zm_den 3 194 39 [.ref 137, .int (nI k), .int (nI l), .int f, .int w, .null, .null, .null, .null] [] h := fun h => by
          rw [zc194, zm_nx, zb194_0]
          simp only [m0, e', zq_bi_o, h10, if_false, zm_nx]
          rw [zb194_12]
          simp only [m1, q', zq_bi_o, h10, if_false, zm_nx]
          rw [zb194_24]
          simp only [m2, p', zq_bi_o, h10, not_false_eq_true, if_true, zm_nx]
        by_cases n0 : n = 0
        · have w0 : w = 0 := by rw [ew, n0]; rfl
          subst w0
          refine zt_read_0 (by omega) (by omega) hK hO (fun n hn => ?_) fun h n hn => ?_
          · rw [hn]; exact E1
          · rw [hn]; exact E2 h
        · subst ew
          have h4 : (4 : Nat) < 2 ^ 31 := by decide
          have hk4 : k < 4 := by omega
          obtain ⟨sl, sn⟩ := s5 k hk4
          by_cases u : (Y.2.2.2.2.2 k).1 = -1
          · refine zt_read_b (c := 1) hk4 (by omega) (by omega) hn (by decide) hK hO E1 E2 ?_ fun h A g M O => ?_
            · unfold zx_fa
              rw [if_neg (not_not_intro u)]
            · obtain ⟨A, g, a1, a2, a3, -, -, -, -, -, -, -, -, -, ⟨r1, b1, b2⟩, -⟩ := id O
              have b1' : zm_g h (137 + 10) = .inl (0, 4, .inl r1) := b1
              have L1 := b2 k hk4
              rw [if_pos u] at L1
              rw [zb194_69]
              simp only [a1.1, zor22, b1', zq_al_o hk4 h4, L1, not_true_eq_false, if_false, zm_nx]
              rw [zb194_80, zm_nx]
          · have u4 : ¬ (Y.2.2.2.2.2 k).1 = -4 := by
              rcases sl with q | q | q | q
              · exact absurd q u
              · rw [q]; decide
              · rw [q]; decide
              · rw [q]; decide
            by_cases v : (Y.2.2.2.2.2 k).1 = nI l
            · rcases zw_fig_cL f sn with z | ⟨F, hF, ef, z⟩
              · refine zt_read_b (c := 2) hk4 (by omega) (by omega) hn (by decide) hK hO E1 E2 ?_ fun h A g M O => ?_
                · unfold zx_fa
                  rw [if_pos u, if_pos v]
                  unfold zw_fig at z
                  by_cases p1 : f < 0
                  · rw [if_pos p1]
                  · rw [if_neg p1] at z ⊢
                    by_cases p2 : nI (Y.2.2.2.2.2 k).2.1 ≤ f
                    · rw [if_neg (Int32.not_lt.mpr p2)]
                    · rw [if_neg p2] at z
                      exact absurd z (by decide)
                · obtain ⟨A, g, a1, a2, a3, -, -, -, -, -, -, -, -, -, ⟨r1, b1, b2⟩, ⟨r2, b3, b4⟩, -⟩ := id O
                  have b1' : zm_g h (137 + 10) = .inl (0, 4, .inl r1) := b1
                  have b3' : zm_g h (137 + 11) = .inl (0, 4, .inl r2) := b3
                  have L1 := b2 k hk4
                  rw [if_neg u] at L1
                  have m0 := qm_in (h := h) f 0 (nI (Y.2.2.2.2.2 k).2.1 - 1) (0 : Int64) (nI (Y.2.2.2.2.2 k).2.1 - 1).toInt64 (by decide) rfl
                  rw [zw_fig_inL _ sn, z] at m0
                  have f0 : f.toInt64 + (0 : Int32).toInt64 = f.toInt64 := Int64.add_zero _
                  rw [zb194_69]
                  simp only [a1.1, zor22, b1', zq_al_o hk4 h4, L1, u4, not_false_eq_true, if_true, zm_nx]
                  rw [zb194_84]
                  simp only [a1.1, zor22, b1', zq_al_o hk4 h4, L1, v, if_true, zm_nx]
                  rw [zb194_98]
                  simp only [a1.1, zor23, b3', zq_al_o hk4 h4, b4 k hk4, f0, m0, zq_bi_o, not_true_eq_false, if_false, zm_nx]
                  rw [zb194_120, zm_nx]
              · subst ef
                have l1 : ¬ nI l = -1 := by rw [← v]; exact u
                obtain ⟨h1, b1, b2, b3⟩ := qc_read_l (n := n) (F := F) (k := k) hk4 hn kO kd v l1 hF n 0 h Y.1 .null .null (by omega) hK ⟨Nat.le_refl _, fun _ _ => rfl, rfl⟩
                obtain ⟨RR, eRR⟩ : ∃ RR, RR = zp_rd (Y.2.2.2.2.2 k).2.2 F (Y.2.2.2.2.2 k).2.1 Y.1 Y.2.2.1.2 n 0 Y.1 := ⟨_, rfl⟩
                rw [← eRR] at b1 b2
                refine zt_mk hO (r := RR.1) (E1.trans ?_) b2 b3 fun O1 => ?_
                · rw [zb102_28]
                  simp only [k0, zkr13, s1, zq_ql_o hk4 h4 (s2 k hk4), zkr0, v1, zgr_1_0, v2, zgi_2_1, zm_nx]
                  exact b1
                obtain ⟨A0, g0, J, a2⟩ := zo_J0 O1
                obtain ⟨A, g, a1', a2', a3, -, -, -, -, -, -, -, -, -, ⟨r1, t1, t2⟩, ⟨r2, t3, t4⟩, ⟨r3, t5, t6⟩⟩ := id O1
                obtain ⟨h4', g4, c1, c2', c3, c4⟩ := zo_Jc J a2 v3 (t := 93) (by omega)
                have c1' : zm_call 160 [.ref 137, .int (0 : Int32), .int (93 : Int32)] h1 = some (none, h4') := c1
                have L1 := t2 k hk4
                rw [if_neg u, v] at L1
                obtain ⟨h5, g5, A5, d1, d2, d3⟩ := qm_read_l (P := Y.1) (R0 := Y.2.2.1.2) (F := F) (n := n) hk4 hn kO kd t1 t3 t5 L1 (by rw [← v]; exact u4) (t4 k hk4) sn (t6 k hk4) hF n 0 h4' g4 Y.1 .null (by omega) c2' (zs_Pk a2 v3 fun q _ _ => c4 q (by omega)) kO ⟨Nat.le_refl _, fun _ _ => rfl, rfl⟩ c3
                rw [← eRR] at d1 d2 d3
                have fin : zm_call 194 [.ref 137, .int (nI k), .int (nI l), .int (nI F), .int (nI n)] h1 = some (some (.int RR.1), h5) := by
                  rw [E2, zb194_39]
                  simp only [J.1.1, zq_rc_o, c1', zq_bv_o, zm_nx]
                  exact d1
                refine ⟨h5, fin, ?_⟩
                rcases d2 with ⟨-, hm, Jm, eh⟩ | ⟨er, Jm⟩
                · have R := zo_Je (P := RR.2.2) hK.2.2.2.2.2.1 O1 J.1 Jm d3
                  subst eh
                  exact ⟨zo_setR (Y := (RR.2.2, Y.2)) R.1 Jm.1 ⟨zg_ss, by rw [zg_sn (by omega)]; exact Jm.1.2⟩ fun b b1 b2 => zg_sn (by omega), zFr_tr R.2 (zFr_s (by omega) (by omega))⟩
                · have R := zo_Je (P := RR.2.2) hK.2.2.2.2.2.1 O1 J.1 Jm d3
                  rw [er]
                  exact R
            · refine zt_read_b (c := 3) hk4 (by omega) (by omega) hn (by decide) hK hO E1 E2 ?_ fun h A g M O => ?_
              · unfold zx_fa
                rw [if_pos u, if_neg v]
              · obtain ⟨A, g, a1, a2, a3, -, -, -, -, -, -, -, -, -, ⟨r1, b1, b2⟩, -⟩ := id O
                have b1' : zm_g h (137 + 10) = .inl (0, 4, .inl r1) := b1
                have L1 := b2 k hk4
                rw [if_neg u] at L1
                rw [zb194_69]
                simp only [a1.1, zor22, b1', zq_al_o hk4 h4, L1, u4, not_false_eq_true, if_true, zm_nx]
                rw [zb194_84]
                simp only [a1.1, zor22, b1', zq_al_o hk4 h4, L1, v, if_false, zm_nx]
                rw [zb194_94, zm_nx]
end ZT77
