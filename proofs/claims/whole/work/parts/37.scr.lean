section ZSCR
variable {h h' : zm_H} {Y : zy_T}
theorem zk_tr {P : zp_T} (hK : zk_K h Y) (hV : zp_V h' 11 P) (hF : zm_Fr h h' 11 21) : zk_K h' Y := zk_scr hK (zk_Zt hK.2.2.1 hV hF) (zFr_mn hF (by omega) (by omega))
theorem zk_trial (hK : zk_K h Y) : ∃ h1, zm_call 30 [.ref 11, .ref 1] h = some (none, h1) ∧ zp_V h1 11 Y.1 ∧ zk_K h1 Y ∧ zm_Fr h h1 11 21 := by
  obtain ⟨P, hP⟩ := hK.2.2.1.1
  obtain ⟨h1, e1, e2, e3⟩ := qv_copy (p := 11) (q := 1) (by omega) hP hK.2.1.1
  exact ⟨h1, e1, e2, zk_tr hK e2 e3, e3⟩
theorem zo_dg {N : Nat} (hK : zk_K h Y) (hO : zo_K h Y) (hN : N ≤ 60) : ∃ h' A' g' r', zm_call 161 [.ref 137, .int (0 : Int32), .int (nI N)] h = some (none, h') ∧ zo_M h' 137 A' g' ∧ zs_P g' 124 (zp_run N Y.1) ∧ A' 14 = zp_ruled (-4) N Y.1 0 ∧ A' 15 = zp_rulers N Y.1 0 ∧ A' 16 = zp_chg N Y.1 0 ∧ zm_g h' 143 = .inl (0, 5, .inl r') ∧ (∀ j, j < 5 → r' j = zp_ruled (nI j) N Y.1 0) ∧ zo_K h' Y ∧ zm_Fr h h' 137 150 := by
  obtain ⟨-, ⟨-, kO, kd⟩, -, -, -, kI, -⟩ := hK
  obtain ⟨A, g, a1, a2, a3, a4, a5, a6, a7, ⟨r, a8⟩, a9⟩ := id hO
  obtain ⟨h', A', g', r', d1, d2, d3, d4, d5, d6, d7, d8, d9, d10, d11⟩ := qm_dg (f := 0) (N := N) (r := r) (Or.inl (by omega)) a1 a2 kO (by omega) a8
  refine ⟨h', A', g', r', d1, d2, d3, d5, d6, d7, d4, d8, ?_, d11.1, d11.2.1, fun b hb => d11.2.2 b (by omega) (by omega) (by omega)⟩
  exact zo_scr hO a1 d2 d9 (fun q hq => d10 q (by omega)) ⟨r', d4⟩ kO.1 (fun j hj h1 => (kI.2.2.2.2 j hj h1).1.1) fun b b1 b2 b3 => d11.2.2 b (by omega) (by omega) b3
theorem zFr_12 {h1 h2 : zm_H} (f1 : zm_Fr h h1 0 137) (f2 : zm_Fr h1 h2 137 150) : zm_Fr h h2 0 150 ∧ zm_Fr h h1 0 137 := ⟨zFr_tr (zFr_mn f1 (by omega) (by omega)) (zFr_mn f2 (by omega) (by omega)), f1⟩
theorem zt_decree (x : Int32) (hK : zk_K h Y) (hO : zo_K h Y) : zt_R 80 168 [.int x] h := by
  have c1 := qc_within (h := h) x 60
  have m1 := fun h : zm_H => qm_in (h := h) x 0 60 (0 : Int64) (60 : Int64) (by decide) (by decide)
  have h10 : ¬ (1 : Int32) = 0 := by decide
  rcases zw_in_c x (u := 60) (by decide) with e | ⟨N, hN, ex, e⟩
  · have e' : zw_in x 0 60 = 0 := e
    refine zt_ro (r := -1) hK hO ?_ ?_
    · rw [zc80, zm_nx, zb80_0]
      simp only [c1, zq_bi_o, e', not_true_eq_false, if_false, zm_nx, zb80_9]
    · rw [zc168, zm_nx, zb168_0]
      simp only [m1, zq_bi_o, e', not_true_eq_false, if_false, zm_nx, zb168_12]
  · have e' : zw_in x 0 60 = 1 := e
    subst ex
    have kd := hK.2.1.2.2
    obtain ⟨h1, t1, t2, t3, t4⟩ := zk_trial hK
    obtain ⟨h2, s1, s2, s3⟩ := qv_run (N := N) t2 (by omega)
    have K2 := zk_tr t3 s2 s3
    have O2 : zo_K h2 Y := zo_keep hO fun b b1 b2 => (s3.2.2 b (by omega)).trans (t4.2.2 b (by omega))
    obtain ⟨h3, A, g, r, p1, p2, p3, p4, p5, p6, p7, p8, p9, p10⟩ := zo_dg (N := N) K2 O2 hN
    obtain ⟨ad0, Q0, -, -, u1, u2, u3, u4⟩ := zV_row hK.2.2.1.1.choose_spec
    obtain ⟨ad1, Q1, -, -, v1, v2, v3, v4⟩ := zV_row t2
    obtain ⟨ad2, Q2, -, -, w1, w2, w3, w4⟩ := zV_row s2
    have q1 : zm_call 144 [.ref 137, .int (124 : Int32)] h3 = _ := qm_dec (p := 124) (zo_Ms p2) p3 (by omega) w3
    refine ⟨h2, h3, zp_dec (zp_run N Y.1), Y, ?_, ?_, zk_keep K2 fun b hb => p10.2.2 b (by omega), p9, zFr_12 (zFr_mn (zFr_tr t4 s3) (by omega) (by omega)) p10⟩
    · rw [zc80, zm_nx, zb80_0]
      simp only [c1, zq_bi_o, e', h10, not_false_eq_true, if_true, zm_nx, zb80_11, hK.1, zkr1, zkr0, u1, zq_rc_o, t1, zq_bv_o, t3.1, v1, s1, K2.1, w1, zgr_1_0, w2, qv_dec s2]
    · rw [zc168, zm_nx, zb168_0]
      simp only [m1, zq_bi_o, e', h10, not_false_eq_true, if_true, zm_nx, zb168_14, O2.choose_spec.choose_spec.1.1, zq_rc_o, p1, zq_bv_o, p2.1, q1]
end ZSCR
