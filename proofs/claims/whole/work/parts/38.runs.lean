section ZRUNS
variable {h : zm_H} {Y : zy_T}
theorem zt_runs (x y : Int32) (hK : zk_K h Y) (hO : zo_K h Y) : zt_R 76 162 [.int x, .int y] h := by
  have c1 := qc_within (h := h) x 60
  have c2 := qc_within (h := h) y 4
  have m1 := fun h : zm_H => qm_in (h := h) x 0 60 (0 : Int64) (60 : Int64) (by decide) (by decide)
  have m2 := fun h : zm_H => qm_in (h := h) y 0 4 (0 : Int64) (4 : Int64) (by decide) (by decide)
  have h10 : ¬ (1 : Int32) = 0 := by decide
  rcases zw_in_c x (u := 60) (by decide) with e | ⟨N, hN, ex, e⟩
  · have e' : zw_in x 0 60 = 0 := e
    refine zt_ro (r := -1) hK hO ?_ ?_
    · rw [zc76, zm_nx, zb76_0]
      simp only [c1, zq_bi_o, e', if_true, zm_nx, zb76_17]
    · rw [zc162, zm_nx, zb162_0]
      simp only [m1, zq_bi_o, e', if_true, zm_nx, zb162_24]
  · have e' : zw_in x 0 60 = 1 := e
    rcases zw_in_c y (u := 4) (by decide) with f | ⟨w, hw, ey, f⟩
    · have f' : zw_in y 0 4 = 0 := f
      refine zt_ro (r := -1) hK hO ?_ ?_
      · rw [zc76, zm_nx, zb76_0]
        simp only [c1, zq_bi_o, e', h10, if_false, zm_nx, zb76_9, c2, f', not_true_eq_false, zb76_17]
      · rw [zc162, zm_nx, zb162_0]
        simp only [m1, zq_bi_o, e', h10, if_false, zm_nx, zb162_12, m2, f', not_true_eq_false, zb162_24]
    · have f' : zw_in y 0 4 = 1 := f
      subst ex
      have kd := hK.2.1.2.2
      obtain ⟨h1, t1, t2, t3, t4⟩ := zk_trial hK
      obtain ⟨ad0, Q0, -, -, u1, u2, u3, u4⟩ := zV_row hK.2.2.1.1.choose_spec
      obtain ⟨ad1, Q1, -, -, v1, v2, v3, v4⟩ := zV_row t2
      have T1 : zm_call 76 [.ref 0, .int (nI N), .int y] h = (if ¬ y = (2 : Int32) then zm_den 7 76 44 [.ref 0, .int (nI N), .int y] [] h1 else zm_den 7 76 35 [.ref 0, .int (nI N), .int y] [] h1) := by
        rw [zc76, zm_nx, zb76_0]
        simp only [c1, zq_bi_o, e', h10, if_false, zm_nx, zb76_9, c2, f', not_false_eq_true, if_true, zb76_19, hK.1, zkr1, zkr0, u1, zq_rc_o, t1, zq_bv_o]
      have T2 : ∀ h2, zo_K h2 Y → ∀ h3, zm_call 161 [.ref 137, .int (0 : Int32), .int (nI N)] h2 = some (none, h3) → zm_call 162 [.ref 137, .int (nI N), .int y] h2 = (if ¬ y = (0 : Int32) then zm_den 5 162 45 [.ref 137, .int (nI N), .int y] [] h3 else zm_den 5 162 36 [.ref 137, .int (nI N), .int y] [] h3) := by
        intro h2 O2 h3 p1
        rw [zc162, zm_nx, zb162_0]
        simp only [m1, zq_bi_o, e', h10, if_false, zm_nx, zb162_12, m2, f', not_false_eq_true, if_true, zb162_26, O2.choose_spec.choose_spec.1.1, zq_rc_o, p1, zq_bv_o]
      have fin : ∀ (h2 : zm_H) (r : Int32), zm_call 76 [.ref 0, .int (nI N), .int y] h = some (some (.int r), h2) → zp_V h2 11 (zp_run N Y.1) → zm_Fr h1 h2 11 21 → (∀ h3 A g, zo_M h3 137 A g → zs_P g 124 (zp_run N Y.1) → A 14 = zp_ruled (-4) N Y.1 0 → A 15 = zp_rulers N Y.1 0 → (if ¬ y = (0 : Int32) then zm_den 5 162 45 [.ref 137, .int (nI N), .int y] [] h3 else zm_den 5 162 36 [.ref 137, .int (nI N), .int y] [] h3) = some (some (.int r), h3)) → zt_R 76 162 [.int (nI N), .int y] h := by
        intro h2 r q1 s2 s3 q2
        have K2 := zk_tr t3 s2 s3
        have O2 : zo_K h2 Y := zo_keep hO fun b b1 b2 => (s3.2.2 b (by omega)).trans (t4.2.2 b (by omega))
        obtain ⟨h3, A, g, r', p1, p2, p3, p4, p5, p6, p7, p8, p9, p10⟩ := zo_dg (N := N) K2 O2 hN
        exact ⟨h2, h3, r, Y, q1, (T2 h2 O2 h3 p1).trans (q2 h3 A g p2 p3 p4 p5), zk_keep K2 fun b hb => p10.2.2 b (by omega), p9, zFr_12 (zFr_mn (zFr_tr t4 s3) (by omega) (by omega)) p10⟩
      have hn : (zp_run N Y.1).1 ≤ 5 := (zp_ok_run N hK.2.1.2.1).1
      by_cases y2 : y = 2
      · subst y2
        obtain ⟨h2, s1, s2, s3⟩ := qv_unruled (N := N) t2 (by omega)
        refine fin h2 (zp_ruled (-4) N Y.1 0) (T1.trans ?_) s2 s3 fun h3 A g M P a14 a15 => ?_
        · rw [if_neg (by decide), zb76_35]
          simp only [t3.1, zkr1, v1, zq_rc_o, s1, zq_bi_o]
        · rw [if_pos (by decide), zb162_45, if_pos (by decide), zm_nx, zb162_59, if_neg (by decide), zm_nx, zb162_64, M.1, zoi14, zm_nx, zb162_89, a14]
      · rw [if_pos y2] at T1
        by_cases y4 : y = 4
        · subst y4
          obtain ⟨h2, s1, s2, s3⟩ := qv_rulers (N := N) t2 (by omega)
          refine fin h2 (zp_rulers N Y.1 0) (T1.trans ?_) s2 s3 fun h3 A g M P a14 a15 => ?_
          · rw [zb76_44, if_neg (by decide), zm_nx, zb76_49]
            simp only [t3.1, zkr1, v1, zq_rc_o, s1, zq_bi_o]
          · rw [if_pos (by decide), zb162_45, if_pos (by decide), zm_nx, zb162_59, if_pos (by decide), zm_nx, zb162_71, if_pos (by decide), zm_nx, zb162_85, M.1, zoi15, zm_nx, zb162_89, a15]
        · obtain ⟨h2, s1, s2, s3⟩ := qv_run (N := N) t2 (by omega)
          obtain ⟨ad2, Q2, -, -, w1, w2, w3, w4⟩ := zV_row s2
          have K2 := zk_tr t3 s2 s3
          rw [zb76_44, if_pos y4, zm_nx, zb76_58] at T1
          simp only [t3.1, zkr1, v1, zq_rc_o, s1, zq_bv_o, zm_nx] at T1
          by_cases y0 : y = 0
          · subst y0
            refine fin h2 (zr_bits (zp_run N Y.1).1 (zp_run N Y.1).2.1) (T1.trans ?_) s2 s3 fun h3 A g M P a14 a15 => ?_
            · rw [if_neg (by decide), zb76_70]
              simp only [K2.1, zkr1, w1, zgr_1_0, w2, zq_rc_o, qv_bits s2, zq_bi_o]
            · have q : zm_call 142 [.ref 137, .int (124 : Int32)] h3 = _ := qm_bits (p := 124) (zo_Ms M) P (by omega) hn
              rw [if_neg (by decide), zb162_36, M.1, zq_rc_o, q, zq_bi_o, zm_nx, zb162_89]
          · rw [if_pos y0] at T1
            by_cases y1 : y = 1
            · subst y1
              refine fin h2 (zp_reign (zp_run N Y.1)) (T1.trans ?_) s2 s3 fun h3 A g M P a14 a15 => ?_
              · rw [zb76_81, if_neg (by decide), zm_nx, zb76_86]
                simp only [K2.1, zkr1, w1, zgr_1_0, w2, zq_rc_o, qv_reign s2, zq_bi_o, zm_nx, zb76_109]
              · have q : zm_call 143 [.ref 137, .int (124 : Int32)] h3 = _ := qm_reign (p := 124) (zo_Ms M) P (by omega) hn
                rw [if_pos (by decide), zb162_45, if_neg (by decide), zm_nx, zb162_50, M.1, zq_rc_o, q, zq_bi_o, zm_nx, zb162_89]
            · have y3 : y = 3 := by
                subst ey
                match w, hw with
                | 0, _ => exact absurd rfl y0
                | 1, _ => exact absurd rfl y1
                | 2, _ => exact absurd rfl y2
                | 3, _ => rfl
                | 4, _ => exact absurd rfl y4
                | n + 5, hn => exact absurd hn (by omega)
              subst y3
              refine fin h2 (zr_sum (zp_run N Y.1).1 (zp_run N Y.1).2.1) (T1.trans ?_) s2 s3 fun h3 A g M P a14 a15 => ?_
              · rw [zb76_81, if_pos (by decide), zm_nx, zb76_99]
                simp only [K2.1, zkr1, w1, zgr_1_0, w2, zq_rc_o, qv_sum s2, zq_bi_o, zm_nx, zb76_109]
              · have q : zm_call 145 [.ref 137, .int (124 : Int32)] h3 = _ := qm_sum (p := 124) (zo_Ms M) P (by omega) hn
                rw [if_pos (by decide), zb162_45, if_pos (by decide), zm_nx, zb162_59, if_pos (by decide), zm_nx, zb162_71, if_neg (by decide), zm_nx, zb162_76, M.1, zq_rc_o, q, zq_bi_o, zm_nx, zb162_89]
end ZRUNS
