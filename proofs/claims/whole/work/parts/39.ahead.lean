theorem zp_run_n : ∀ (k : Nat) (P : zp_T), (zp_run k P).1 = P.1
  | 0, _ => rfl
  | k + 1, P => (zp_run_n k (zp_pass P)).trans rfl
section ZAHEAD
variable {h : zm_H} {Y : zy_T}
theorem zt_ahead (x y z : Int32) (hK : zk_K h Y) (hO : zo_K h Y) : zt_R 77 163 [.int x, .int y, .int z] h := by
  have k0 := hK.1
  have kV := hK.2.1.1
  obtain ⟨ad, Q, -, -, v1, v2, v3, v4⟩ := zV_row kV
  obtain ⟨A, g, a1, a2, a3, -⟩ := id hO
  have c0 := qc_isfig (x := x) k0 kV
  have m0 := qm_isfig (x := x) a1 a2 v3
  have c1 := qc_within (h := h) y 60
  have c2 := qc_within (h := h) z 1
  have m1 := fun h : zm_H => qm_in (h := h) y 0 60 (0 : Int64) (60 : Int64) (by decide) (by decide)
  have m2 := fun h : zm_H => qm_in (h := h) z 0 1 (0 : Int64) (1 : Int64) (by decide) (by decide)
  have h10 : ¬ (1 : Int32) = 0 := by decide
  rcases zw_fig_c x v3 with e | ⟨i, hi, ex, e⟩
  · refine zt_ro (r := -1) hK hO ?_ ?_
    · rw [zc77, zm_nx, zb77_0]
      simp only [k0, zq_rc_o, c0, zq_bi_o, e, if_true, zm_nx, zb77_25]
    · rw [zc163, zm_nx, zb163_0]
      simp only [a1.1, zq_rc_o, m0, zq_bi_o, e, if_true, zm_nx, zb163_30]
  · subst ex
    rw [e] at c0 m0
    rcases zw_in_c y (u := 60) (by decide) with f | ⟨N, hN, ey, f⟩
    · have f' : zw_in y 0 60 = 0 := f
      refine zt_ro (r := -1) hK hO ?_ ?_
      · rw [zc77, zm_nx, zb77_0]
        simp only [k0, zq_rc_o, c0, zq_bi_o, h10, if_false, zm_nx, zb77_8, c1, f', if_true, zb77_25]
      · rw [zc163, zm_nx, zb163_0]
        simp only [a1.1, zq_rc_o, m0, zq_bi_o, h10, if_false, zm_nx, zb163_8, m1, f', if_true, zb163_30]
    · have f' : zw_in y 0 60 = 1 := f
      rcases zw_in_c z (u := 1) (by decide) with q | ⟨w, hw, ez, q⟩
      · have q' : zw_in z 0 1 = 0 := q
        refine zt_ro (r := -1) hK hO ?_ ?_
        · rw [zc77, zm_nx, zb77_0]
          simp only [k0, zq_rc_o, c0, zq_bi_o, h10, if_false, zm_nx, zb77_8, c1, f', zb77_17, c2, q', not_true_eq_false, zb77_25]
        · rw [zc163, zm_nx, zb163_0]
          simp only [a1.1, zq_rc_o, m0, zq_bi_o, h10, if_false, zm_nx, zb163_8, m1, f', zb163_20, m2, q', not_true_eq_false, zb163_30]
      · have q' : zw_in z 0 1 = 1 := q
        subst ey
        have kd := hK.2.1.2.2
        obtain ⟨h1, t1, t2, t3, t4⟩ := zk_trial hK
        obtain ⟨h2, s1, s2, s3⟩ := qv_run (N := N) t2 (by omega)
        have K2 := zk_tr t3 s2 s3
        have O2 : zo_K h2 Y := zo_keep hO fun b b1 b2 => (s3.2.2 b (by omega)).trans (t4.2.2 b (by omega))
        obtain ⟨h3, A3, g3, r3, p1, p2, p3, p4, p5, p6, p7, p8, p9, p10⟩ := zo_dg (N := N) K2 O2 hN
        obtain ⟨ad0, Q0, -, -, u1, u2, u3, u4⟩ := zV_row hK.2.2.1.1.choose_spec
        obtain ⟨ad1, Q1, -, -, y1, y2, y3, y4⟩ := zV_row t2
        obtain ⟨ad2, Q2, -, -, w1, w2, w3, w4⟩ := zV_row s2
        have hi' : i < (zp_run N Y.1).1 := by rw [zp_run_n]; exact hi
        obtain ⟨ga, a, d1, d2, d3, -⟩ := zV_fig s2 hi'
        obtain ⟨B, gB, b1, b2, -⟩ := id O2
        have m0' := qm_isfig (x := nI i) b1 b2 v3
        rw [e] at m0'
        obtain ⟨-, l1, l2⟩ := p3.2.1 i hi'
        have q1 : ∀ f : Int32 → zm_O, zq_al (.inl (0, 186, .inl g3)) 0 ((129 : Int32) + nI i) f = f ((zp_run N Y.1).2.1 i).2.1 := fun f => zy_al (j := 124 + 5 + i) (nI_add 129 i) (by omega) (by decide) l1
        have q2 : ∀ f : Int32 → zm_O, zq_al (.inl (0, 186, .inl g3)) 0 ((134 : Int32) + nI i) f = f (((zp_run N Y.1).2.1 i).2.2 - 20) := fun f => zy_al (j := 124 + 10 + i) (nI_add 134 i) (by omega) (by decide) l2
        have tl := fun k : Int32 => qc_tell (k := k) d3
        have rc : ∀ o : zm_O, zq_rc (zf_c ((zp_run N Y.1).2.1 i)) 0 o = o := fun o => rfl
        refine ⟨h2, h3, (if z = 0 then ((zp_run N Y.1).2.1 i).2.1 else ((zp_run N Y.1).2.1 i).2.2), Y, ?_, ?_, zk_keep K2 fun b hb => p10.2.2 b (by omega), p9, zFr_12 (zFr_mn (zFr_tr t4 s3) (by omega) (by omega)) p10⟩
        · rw [zc77, zm_nx, zb77_0]
          simp only [k0, zq_rc_o, c0, zq_bi_o, h10, if_false, zm_nx, zb77_8, c1, f', zb77_17, c2, q', not_false_eq_true, if_true, zb77_27, zkr1, zkr0, u1, t1, zq_bv_o, t3.1, y1, s1, K2.1, w1, zgr_1_0, w2, zgr_2_0, d1, zq_ql_o (show i < 5 by omega) (by decide) d2, zb77_62, zb77_66, zb77_67, d3, rc, tl]
          by_cases z0 : z = 0
          · rw [if_neg (not_not_intro z0), if_pos z0]
            rfl
          · rw [if_pos z0, if_neg z0]
            rfl
        · rw [zc163, zm_nx, zb163_0]
          simp only [b1.1, zq_rc_o, m0', zq_bi_o, h10, if_false, zm_nx, zb163_8, m1, f', zb163_20, m2, q', not_false_eq_true, if_true, zb163_32, p1, zq_bv_o, zb163_42, zb163_55, p2.1, zor0, p2.2, q1, q2, zb163_68, Int32.sub_add_cancel]
          by_cases z0 : z = 0
          · rw [if_neg (not_not_intro z0), if_pos z0]
          · rw [if_pos z0, if_neg z0]
end ZAHEAD
