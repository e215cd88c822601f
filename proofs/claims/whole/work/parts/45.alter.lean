section ZT45
variable {h : zm_H} {Y : zy_T}
theorem zt_alter (x y z : Int32) (hK : zk_K h Y) (hO : zo_K h Y) : zt_R 69 151 [.int x, .int y, .int z] h := by
  have k0 := hK.1
  obtain ⟨kV, kO, kd⟩ := hK.2.1
  obtain ⟨ad, Q, -, -, v1, v2, v3, v4⟩ := zV_row kV
  obtain ⟨A, g, a1, a2, a3, -⟩ := id hO
  have h10 : ¬ (1 : Int32) = 0 := by decide
  have c0 := qc_isfig (x := x) k0 kV
  have m0 := qm_isfig (x := x) a1 a2 v3
  have c1 := qc_within (h := h) y 2
  have m1 := fun h : zm_H => qm_in (h := h) y 0 2 (0 : Int64) (2 : Int64) (by decide) (by decide)
  have c2 := fun u => qc_within (h := h) z u
  have m2 := fun (h : zm_H) (u : Int32) => qm_in (h := h) z 0 u (0 : Int64) u.toInt64 (by decide) rfl
  have p0 := fun (y v less : Int32) => qm_puts0 (h := h) (x := 0) (v := v) (less := less) (y := y) rfl
  rcases zw_fig_c x v3 with e | ⟨i, hi, ex, e⟩
  · refine zt_ro (r := -1) hK hO ?_ ?_
    · simp only [zc69, zB69, k0, c0, e, zm_nx, zq_rc_o, zq_bi_o, zq_bl_o, zq_bv_o, not_true_eq_false, not_false_eq_true, if_true, if_false, h10, ite_self]
    · simp only [zc151, zB151, a1.1, m0, e, p0, zm_nx, zq_rc_o, zq_bi_o, zq_bl_o, zq_bv_o, not_true_eq_false, not_false_eq_true, if_true, if_false, h10, ite_self]
  · subst ex
    rw [e] at c0 m0
    rcases zw_in_c y (u := 2) (by decide) with f | ⟨w, hw, ey, f⟩
    · have f' : zw_in y 0 2 = 0 := f
      refine zt_ro (r := -1) hK hO ?_ ?_
      · simp only [zc69, zB69, k0, c0, c1, f', zm_nx, zq_rc_o, zq_bi_o, zq_bl_o, zq_bv_o, not_true_eq_false, not_false_eq_true, if_true, if_false, h10, ite_self]
      · simp only [zc151, zB151, a1.1, m0, m1, f', p0, zm_nx, zq_rc_o, zq_bi_o, zq_bl_o, zq_bv_o, not_true_eq_false, not_false_eq_true, if_true, if_false, h10, ite_self]
    · subst ey
      have f' : zw_in (nI w) 0 2 = 1 := f
      match w, hw, f' with
      | 0, _, f' =>
        have most : zm_most 0 = 3 := rfl
        rcases zw_in_c z (u := 3) (by decide) with q | ⟨v, hv, ez, q⟩
        · have q' : zw_in z 0 3 = 0 := q
          refine zt_ro (r := -1) hK hO ?_ ?_
          · simp only [zc69, zB69, k0, c0, c1, f', zq_tl_o (show 0 < 3 by decide), most, c2, q', zm_nx, zq_rc_o, zq_bi_o, zq_bl_o, zq_bv_o, not_true_eq_false, not_false_eq_true, if_true, if_false, h10, ite_self]
          · simp only [zc151, zB151, a1.1, m0, m1, f', m2, q', p0, eq_true (show nI 0 = (0 : Int32) by decide), eq_false (show ¬ nI 0 = (1 : Int32) by decide), eq_false (show ¬ nI 0 = (2 : Int32) by decide), zm_nx, zq_rc_o, zq_bi_o, zq_bl_o, zq_bv_o, not_true_eq_false, not_false_eq_true, if_true, if_false, h10, ite_self]
        · subst ez
          have q' : zw_in (nI v) 0 3 = 1 := q
          obtain ⟨ga, a, d1, d2, d3, d4, d5, d6⟩ := zV_sf kV hi
          have pu := qc_put (k := nI 0) (v := nI v) d3
          have tl := qc_tell (k := nI 0) d3
          have rc : ∀ o : zm_O, zq_rc (zf_c (Y.1.2.1 i)) 0 o = o := fun o => rfl
          have G : zf_ok (zf_put (Y.1.2.1 i) (nI 0) (nI v)) := by
            obtain ⟨k, s, l, hk, hs, hl, ef⟩ := kO.2.1 i hi
            rw [ef]
            exact ⟨v, s, l, by omega, hs, hl, rfl⟩
          have V1 := d6 (zm_s h a (zf_c (zf_put (Y.1.2.1 i) (nI 0) (nI v)))) (fun b _ _ hb => zg_sn hb) _ zg_ss
          have F1 : zm_Fr h (zm_s h a (zf_c (zf_put (Y.1.2.1 i) (nI 0) (nI v)))) 1 11 := zFr_s (by omega) (by omega)
          refine zt_now hK hO (r := zf_get (Y.1.2.1 i) (nI 0)) ?_ V1 (zp_ok_sf kO G) kd F1 fun A g a1 a2 => ?_
          · simp only [zc69, zB69, k0, c0, c1, f', zq_tl_o (show 0 < 3 by decide), most, c2, q', zkr0, v1, zgr_1_0, v2, zgr_2_0, d1, zq_ql_o (show i < 5 by omega) (by decide) d2, d3, rc, tl, pu, zm_nx, zq_rc_o, zq_bi_o, zq_bl_o, zq_bv_o, not_true_eq_false, not_false_eq_true, if_true, if_false, h10, ite_self]
          have m0 := qm_isfig (x := nI i) a1 a2 v3
          rw [e] at m0
          have pu := qm_puts (x := 1) (v := nI v) (less := 0) (j := 0 + i) a1 h10 (by omega)
          have ej : (5 : Int32) * nI 0 + nI i = nI (0 + i) := by
            rw [show (5 : Int32) = nI 5 from rfl, pk_mul, nI_add]
          have ans : g (0 + i) + 0 = zf_get (Y.1.2.1 i) (nI 0) := (congrArg (· + 0) (a2.2.1 i hi).1).trans (Int32.add_zero _)
          refine ⟨_, upd g (0 + i) (nI v - 0), ?_, ⟨by rw [zg_sn (by omega)]; exact a1.1, zg_ss⟩, zs_Psf a2 v3 (i := i) (fun q _ _ _ _ _ => pk_un (by omega)) hi ?_ ?_ ?_, fun q q1 q2 => pk_un (by omega), zFr_s (by omega) (by omega)⟩
          · simp only [zc151, zB151, a1.1, m0, m1, f', m2, q', ej, pu, ans, eq_true (show nI 0 = (0 : Int32) by decide), eq_false (show ¬ nI 0 = (1 : Int32) by decide), eq_false (show ¬ nI 0 = (2 : Int32) by decide), zm_nx, zq_rc_o, zq_bi_o, zq_bl_o, zq_bv_o, not_true_eq_false, not_false_eq_true, if_true, if_false, h10, ite_self]
          · rw [pk_us]; exact Int32.sub_zero _
          · rw [pk_un (by omega)]; exact (a2.2.1 i hi).2.1
          · rw [pk_un (by omega)]; exact (a2.2.1 i hi).2.2
      | 1, _, f' =>
        have most : zm_most 1 = 99 := rfl
        rcases zw_in_c z (u := 99) (by decide) with q | ⟨v, hv, ez, q⟩
        · have q' : zw_in z 0 99 = 0 := q
          refine zt_ro (r := -1) hK hO ?_ ?_
          · simp only [zc69, zB69, k0, c0, c1, f', zq_tl_o (show 1 < 3 by decide), most, c2, q', zm_nx, zq_rc_o, zq_bi_o, zq_bl_o, zq_bv_o, not_true_eq_false, not_false_eq_true, if_true, if_false, h10, ite_self]
          · simp only [zc151, zB151, a1.1, m0, m1, f', m2, q', p0, eq_false (show ¬ nI 1 = (0 : Int32) by decide), eq_true (show nI 1 = (1 : Int32) by decide), eq_false (show ¬ nI 1 = (2 : Int32) by decide), zm_nx, zq_rc_o, zq_bi_o, zq_bl_o, zq_bv_o, not_true_eq_false, not_false_eq_true, if_true, if_false, h10, ite_self]
        · subst ez
          have q' : zw_in (nI v) 0 99 = 1 := q
          obtain ⟨ga, a, d1, d2, d3, d4, d5, d6⟩ := zV_sf kV hi
          have pu := qc_put (k := nI 1) (v := nI v) d3
          have tl := qc_tell (k := nI 1) d3
          have rc : ∀ o : zm_O, zq_rc (zf_c (Y.1.2.1 i)) 0 o = o := fun o => rfl
          have G : zf_ok (zf_put (Y.1.2.1 i) (nI 1) (nI v)) := by
            obtain ⟨k, s, l, hk, hs, hl, ef⟩ := kO.2.1 i hi
            rw [ef]
            exact ⟨k, v, l, hk, by omega, hl, rfl⟩
          have V1 := d6 (zm_s h a (zf_c (zf_put (Y.1.2.1 i) (nI 1) (nI v)))) (fun b _ _ hb => zg_sn hb) _ zg_ss
          have F1 : zm_Fr h (zm_s h a (zf_c (zf_put (Y.1.2.1 i) (nI 1) (nI v)))) 1 11 := zFr_s (by omega) (by omega)
          refine zt_now hK hO (r := zf_get (Y.1.2.1 i) (nI 1)) ?_ V1 (zp_ok_sf kO G) kd F1 fun A g a1 a2 => ?_
          · simp only [zc69, zB69, k0, c0, c1, f', zq_tl_o (show 1 < 3 by decide), most, c2, q', zkr0, v1, zgr_1_0, v2, zgr_2_0, d1, zq_ql_o (show i < 5 by omega) (by decide) d2, d3, rc, tl, pu, zm_nx, zq_rc_o, zq_bi_o, zq_bl_o, zq_bv_o, not_true_eq_false, not_false_eq_true, if_true, if_false, h10, ite_self]
          have m0 := qm_isfig (x := nI i) a1 a2 v3
          rw [e] at m0
          have pu := qm_puts (x := 1) (v := nI v) (less := 0) (j := 0 + 5 + i) a1 h10 (by omega)
          have ej : (5 : Int32) * nI 1 + nI i = nI (0 + 5 + i) := by
            rw [show (5 : Int32) = nI 5 from rfl, pk_mul, nI_add]
          have ans : g (0 + 5 + i) + 0 = zf_get (Y.1.2.1 i) (nI 1) := (congrArg (· + 0) (a2.2.1 i hi).2.1).trans (Int32.add_zero _)
          refine ⟨_, upd g (0 + 5 + i) (nI v - 0), ?_, ⟨by rw [zg_sn (by omega)]; exact a1.1, zg_ss⟩, zs_Psf a2 v3 (i := i) (fun q _ _ _ _ _ => pk_un (by omega)) hi ?_ ?_ ?_, fun q q1 q2 => pk_un (by omega), zFr_s (by omega) (by omega)⟩
          · simp only [zc151, zB151, a1.1, m0, m1, f', m2, q', ej, pu, ans, eq_false (show ¬ nI 1 = (0 : Int32) by decide), eq_true (show nI 1 = (1 : Int32) by decide), eq_false (show ¬ nI 1 = (2 : Int32) by decide), zm_nx, zq_rc_o, zq_bi_o, zq_bl_o, zq_bv_o, not_true_eq_false, not_false_eq_true, if_true, if_false, h10, ite_self]
          · rw [pk_un (by omega)]; exact (a2.2.1 i hi).1
          · rw [pk_us]; exact Int32.sub_zero _
          · rw [pk_un (by omega)]; exact (a2.2.1 i hi).2.2
      | 2, _, f' =>
        have most : zm_most 2 = 40 := rfl
        rcases zw_in_c z (u := 40) (by decide) with q | ⟨v, hv, ez, q⟩
        · have q' : zw_in z 0 40 = 0 := q
          refine zt_ro (r := -1) hK hO ?_ ?_
          · simp only [zc69, zB69, k0, c0, c1, f', zq_tl_o (show 2 < 3 by decide), most, c2, q', zm_nx, zq_rc_o, zq_bi_o, zq_bl_o, zq_bv_o, not_true_eq_false, not_false_eq_true, if_true, if_false, h10, ite_self]
          · simp only [zc151, zB151, a1.1, m0, m1, f', m2, q', p0, eq_false (show ¬ nI 2 = (0 : Int32) by decide), eq_false (show ¬ nI 2 = (1 : Int32) by decide), eq_true (show nI 2 = (2 : Int32) by decide), zm_nx, zq_rc_o, zq_bi_o, zq_bl_o, zq_bv_o, not_true_eq_false, not_false_eq_true, if_true, if_false, h10, ite_self]
        · subst ez
          have q' : zw_in (nI v) 0 40 = 1 := q
          obtain ⟨ga, a, d1, d2, d3, d4, d5, d6⟩ := zV_sf kV hi
          have pu := qc_put (k := nI 2) (v := nI v) d3
          have tl := qc_tell (k := nI 2) d3
          have rc : ∀ o : zm_O, zq_rc (zf_c (Y.1.2.1 i)) 0 o = o := fun o => rfl
          have G : zf_ok (zf_put (Y.1.2.1 i) (nI 2) (nI v)) := by
            obtain ⟨k, s, l, hk, hs, hl, ef⟩ := kO.2.1 i hi
            rw [ef]
            exact ⟨k, s, v, hk, hs, by omega, rfl⟩
          have V1 := d6 (zm_s h a (zf_c (zf_put (Y.1.2.1 i) (nI 2) (nI v)))) (fun b _ _ hb => zg_sn hb) _ zg_ss
          have F1 : zm_Fr h (zm_s h a (zf_c (zf_put (Y.1.2.1 i) (nI 2) (nI v)))) 1 11 := zFr_s (by omega) (by omega)
          refine zt_now hK hO (r := zf_get (Y.1.2.1 i) (nI 2)) ?_ V1 (zp_ok_sf kO G) kd F1 fun A g a1 a2 => ?_
          · simp only [zc69, zB69, k0, c0, c1, f', zq_tl_o (show 2 < 3 by decide), most, c2, q', zkr0, v1, zgr_1_0, v2, zgr_2_0, d1, zq_ql_o (show i < 5 by omega) (by decide) d2, d3, rc, tl, pu, zm_nx, zq_rc_o, zq_bi_o, zq_bl_o, zq_bv_o, not_true_eq_false, not_false_eq_true, if_true, if_false, h10, ite_self]
          have m0 := qm_isfig (x := nI i) a1 a2 v3
          rw [e] at m0
          have pu := qm_puts (x := 1) (v := nI v) (less := 20) (j := 0 + 10 + i) a1 h10 (by omega)
          have ej : (5 : Int32) * nI 2 + nI i = nI (0 + 10 + i) := by
            rw [show (5 : Int32) = nI 5 from rfl, pk_mul, nI_add]
          have ans : g (0 + 10 + i) + 20 = zf_get (Y.1.2.1 i) (nI 2) := (congrArg (· + 20) (a2.2.1 i hi).2.2).trans (Int32.sub_add_cancel _ _)
          refine ⟨_, upd g (0 + 10 + i) (nI v - 20), ?_, ⟨by rw [zg_sn (by omega)]; exact a1.1, zg_ss⟩, zs_Psf a2 v3 (i := i) (fun q _ _ _ _ _ => pk_un (by omega)) hi ?_ ?_ ?_, fun q q1 q2 => pk_un (by omega), zFr_s (by omega) (by omega)⟩
          · simp only [zc151, zB151, a1.1, m0, m1, f', m2, q', ej, pu, ans, eq_false (show ¬ nI 2 = (0 : Int32) by decide), eq_false (show ¬ nI 2 = (1 : Int32) by decide), eq_true (show nI 2 = (2 : Int32) by decide), zm_nx, zq_rc_o, zq_bi_o, zq_bl_o, zq_bv_o, not_true_eq_false, not_false_eq_true, if_true, if_false, h10, ite_self]
          · rw [pk_un (by omega)]; exact (a2.2.1 i hi).1
          · rw [pk_un (by omega)]; exact (a2.2.1 i hi).2.1
          · rw [pk_us]; rfl
      | n + 3, hn, _ => exact absurd hn (by omega)
end ZT45
