section ZT50
variable {h : zm_H} {Y : zy_T}
theorem zt_clear (x : Int32) (hK : zk_K h Y) (hO : zo_K h Y) : zt_R 74 158 [.int x] h := by
  have k0 := hK.1
  obtain ⟨kV, kO, kd⟩ := hK.2.1
  obtain ⟨ad, Q, -, -, v1, v2, v3, v4⟩ := zV_row kV
  obtain ⟨A, g, a1, a2, a3, -⟩ := id hO
  have h10 : ¬ (1 : Int32) = 0 := by decide
  have q0 := zV_row kV
  obtain ⟨ad, Q, q1, q2, -⟩ := q0
  have c1 := qc_within (h := h) x (nI Y.1.1)
  have m1 := fun h : zm_H => qm_in (h := h) x 0 (nI Y.1.1) (0 : Int64) (nI Y.1.1).toInt64 (by decide) rfl
  have p0 := fun (y v less : Int32) => qm_puts0 (h := h) (x := 0) (v := v) (less := less) (y := y) rfl
  have e15 : ∀ f : Int32 → zm_O, zq_al (.inl (0, 186, .inl g)) 0 (15 : Int32) f = f (nI Y.1.1) := fun f => zy_al (j := 15) rfl (by decide) (by decide) a2.1
  rcases zw_in_c x (u := Y.1.1) (by omega) with e | ⟨n, hn, ex, e⟩
  · refine zt_ro (r := -1) hK hO ?_ ?_
    · simp only [zc74, zB74, k0, zkr0, v1, zgr_1_0, v2, zgi_2_1, c1, e, zm_nx, zq_rc_o, zq_bi_o, zq_bl_o, zq_bv_o, not_true_eq_false, not_false_eq_true, if_true, if_false, h10, ite_self]
    · simp only [zc158, zB158, a1.1, zor0, a1.2, e15, m1, e, p0, zm_nx, zq_rc_o, zq_bi_o, zq_bl_o, zq_bv_o, not_true_eq_false, not_false_eq_true, if_true, if_false, h10, ite_self]
  · subst ex
    have W' : zp_W (zm_s h 2 (.inr (2, [.ref 3, .int (nI n)]))) 1 ad (n, Q.2) := by
      obtain ⟨b1, b2, ⟨b3, b4, ⟨gg, b5, b6⟩, b7, b8, b9⟩, ⟨g1, b10, b11⟩, ⟨g2, b12, b13⟩⟩ := q1
      refine ⟨b1, by rw [zg_sn (by omega)]; exact b2, ⟨by show n ≤ 5; omega, zg_ss, ⟨gg, by rw [zg_sn (by omega)]; exact b5, b6⟩, fun i hi => ?_, b8, b9⟩, ⟨g1, by rw [zg_sn (by omega)]; exact b10, b11⟩, ⟨g2, by rw [zg_sn (by omega)]; exact b12, b13⟩⟩
      have := b8 i hi
      rw [zg_sn (by omega)]
      exact b7 i hi
    have V' : zp_V (zm_s h 2 (.inr (2, [.ref 3, .int (nI n)]))) 1 (n, Y.1.2) := ⟨ad, _, W', rfl, fun i hi => q2.2.1 i (by rw [q2.1]; exact Nat.lt_of_lt_of_le hi hn), q2.2.2.1, q2.2.2.2⟩
    have F1 : zm_Fr h (zm_s h 2 (.inr (2, [.ref 3, .int (nI n)]))) 1 11 := zFr_s (by omega) (by omega)
    refine zt_now hK hO (r := nI Y.1.1) ?_ V' ⟨by show n ≤ 5; omega, fun i hi => kO.2.1 i (Nat.lt_of_lt_of_le hi hn), kO.2.2⟩ kd F1 fun A g a1 a2 => ?_
    · simp only [zc74, zB74, k0, zkr0, v1, zgr_1_0, v2, zgi_2_1, c1, e, zpi_2_1, zm_nx, zq_rc_o, zq_bi_o, zq_bl_o, zq_bv_o, not_true_eq_false, not_false_eq_true, if_true, if_false, h10, ite_self]
    have e15 : ∀ f : Int32 → zm_O, zq_al (.inl (0, 186, .inl g)) 0 (15 : Int32) f = f (nI Y.1.1) := fun f => zy_al (j := 15) rfl (by decide) (by decide) a2.1
    have pu := qm_puts (x := 1) (v := nI n) (less := 0) (j := 15) a1 h10 (by decide)
    have pu' : zm_call 150 [.ref 137, .int 1, .int (15 : Int32), .int (nI n), .int 0] _ = _ := pu
    have g15 : g 15 = nI Y.1.1 := a2.1
    refine ⟨_, upd g 15 (nI n - 0), ?_, ⟨by rw [zg_sn (by omega)]; exact a1.1, zg_ss⟩, ?_, fun q q1 q2 => pk_un (by omega), zFr_s (by omega) (by omega)⟩
    · simp only [zc158, zB158, a1.1, zor0, a1.2, e15, m1, e, pu', g15, Int32.add_zero, zm_nx, zq_rc_o, zq_bi_o, zq_bl_o, zq_bv_o, not_true_eq_false, not_false_eq_true, if_true, if_false, h10, ite_self]
    · refine ⟨by rw [Int32.sub_zero]; exact pk_us, fun i hi => ?_, fun d hd => ?_, by rw [pk_un (by omega)]; exact a2.2.2.2⟩
      · have hi' : i < n := hi
        rw [pk_un (by omega), pk_un (by omega), pk_un (by omega)]
        exact a2.2.1 i (by omega)
      · rw [pk_un (by omega), pk_un (by omega)]
        exact a2.2.2.1 d hd
end ZT50
