section ZT53
variable {h : zm_H} {Y : zy_T}
theorem zx_bool : vp_nar .boolean 1 = 1 := by decide +kernel
theorem zt_keep (x : Int32) (hK : zk_K h Y) (hO : zo_K h Y) : zt_R 98 190 [.int x] h := by
  have k0 := hK.1
  obtain ⟨kV, kO, kd⟩ := hK.2.1
  obtain ⟨ad, Q, -, -, v1, v2, v3, v4⟩ := zV_row kV
  obtain ⟨A, g, a1, a2, a3, -⟩ := id hO
  have h10 : ¬ (1 : Int32) = 0 := by decide
  obtain ⟨⟨gi, i1, i2⟩, ⟨gk, i3, i4⟩, i5, i6, i7⟩ := id hK.2.2.2.2.2.1
  have c0 := qc_within (h := h) x 1
  have m0 := fun h : zm_H => qm_in (h := h) x 0 1 (0 : Int64) (1 : Int64) (by decide) (by decide)
  have h2 : (2 : Nat) < 2 ^ 31 := by decide
  rcases zw_in_c x (u := 1) (by decide) with e | ⟨j, hj, ex, e⟩
  · have e' : zw_in x 0 1 = 0 := e
    refine zt_ro (r := -1) hK hO ?_ ?_
    · simp only [zc98, zB98, c0, e', zm_nx, zq_rc_o, zq_bi_o, zq_bl_o, zq_bv_o, not_true_eq_false, not_false_eq_true, if_true, if_false, h10, ite_self]
    · simp only [zc190, zB190, m0, e', zm_nx, zq_rc_o, zq_bi_o, zq_bl_o, zq_bv_o, not_true_eq_false, not_false_eq_true, if_true, if_false, h10, ite_self]
  · subst ex
    have e' : zw_in (nI j) 0 1 = 1 := e
    have hj2 : j < 2 := by omega
    obtain ⟨h1, s1, s2, s3⟩ := qv_copy (p := 107 + 10 * j) (q := 1) (by omega) (i6 j hj2) kV
    have k1 : zm_g h1 0 = _ := (s3.2.2 0 (by omega)).trans k0
    have c127 : zm_g h1 127 = .inl (2, 2, .inl gk) := (s3.2.2 127 (by omega)).trans i3
    obtain ⟨ad0, Q0, -, -, u1, -⟩ := zV_row (i6 j hj2)
    obtain ⟨H, eH⟩ : ∃ H, H = zm_s h1 127 (.inl (2, 2, .inl (upd gk j 1))) := ⟨_, rfl⟩
    have kk : ∀ b, b ≠ 127 → zm_g H b = zm_g h1 b := fun b b1 => by rw [eH, zg_sn b1]
    have I1 : zk_I H (upd Y.2.2.2.2.1.1 j 1, fun q => if q = j then Y.1 else Y.2.2.2.2.1.2 q) := by
      refine ⟨⟨gi, by rw [kk 106 (by omega), s3.2.2 106 (by omega)]; exact i1, i2⟩, ⟨upd gk j 1, by rw [eH, zg_ss], fun q hq => ?_⟩, fun q hq => ?_, fun q hq => ?_, fun q hq hq1 => ?_⟩
      · show _ = upd Y.2.2.2.2.1.1 j 1 q
        by_cases z : q = j
        · subst z
          rw [pk_us, pk_us]
        · rw [pk_un z, pk_un z]
          exact i4 q hq
      · show upd Y.2.2.2.2.1.1 j 1 q = 0 ∨ upd Y.2.2.2.2.1.1 j 1 q = 1
        by_cases z : q = j
        · subst z
          rw [pk_us]
          exact Or.inr rfl
        · rw [pk_un z]
          exact i5 q hq
      · show zp_V H (107 + 10 * q) (if q = j then Y.1 else Y.2.2.2.2.1.2 q)
        by_cases z : q = j
        · subst z
          rw [if_pos rfl]
          exact zV_keep s2 fun b b1 b2 => kk b (by omega)
        · rw [if_neg z]
          exact zV_keep (i6 q hq) fun b b1 b2 => (kk b (by omega)).trans (s3.2.2 b (by omega))
      · show zp_ok (if q = j then Y.1 else Y.2.2.2.2.1.2 q) ∧ (if q = j then Y.1 else Y.2.2.2.2.1.2 q).2.2.2.2 < 1000
        by_cases z : q = j
        · rw [if_pos z]
          exact ⟨kO, kd⟩
        · rw [if_neg z]
          refine i7 q hq ?_
          have : upd Y.2.2.2.2.1.1 j 1 q = 1 := hq1
          rw [pk_un z] at this
          exact this
    refine zt_mk hO (r := Y.2.2.2.2.1.1 j) (h1 := H) ?_ (zk_setI hK I1 fun b hb => (kk b (by omega)).trans (s3.2.2 b (by omega))) ⟨by rw [eH]; exact s3.1, by rw [eH]; exact s3.2.1, fun b hb => (kk b (by omega)).trans (s3.2.2 b (by omega))⟩ fun O1 => ?_
    · rw [eH]
      rcases i5 j hj2 with z | z
      · simp only [zc98, zB98, c0, e', k0, zkr12, i3, zq_al_o hj2 h2, i4 j hj2, z, zkr11, i1, zq_ql_o hj2 h2 (i2 j hj2), zkr0, u1, s1, k1, c127, zx_bool, zq_as_o hj2 h2, zm_nx, zq_rc_o, zq_bi_o, zq_bl_o, zq_bv_o, not_true_eq_false, not_false_eq_true, if_true, if_false, h10, ite_self]
      · simp only [zc98, zB98, c0, e', k0, zkr12, i3, zq_al_o hj2 h2, i4 j hj2, z, zkr11, i1, zq_ql_o hj2 h2 (i2 j hj2), zkr0, u1, s1, k1, c127, zx_bool, zq_as_o hj2 h2, zm_nx, zq_rc_o, zq_bi_o, zq_bl_o, zq_bv_o, not_true_eq_false, not_false_eq_true, if_true, if_false, h10, ite_self]
    obtain ⟨A, g, a1, a2, a3, -, -, -, -, -, -, -, ⟨c, b1, b2⟩, b3, -⟩ := id O1
    obtain ⟨h4, g4, d1, d2, d3, d4, d5⟩ := qm_copies (f := 0) (t := 31 * (j + 1)) (by omega) (by omega) (by omega) a1
    have ej : (31 : Int32) * (nI j + 1) = nI (31 * (j + 1)) := by rw [nI_1, show (31 : Int32) = nI 31 from rfl, pk_mul]
    have d1' : zm_call 160 [.ref 137, .int (0 : Int32), .int (nI (31 * (j + 1)))] H = some (none, h4) := d1
    have b1' : zm_g h4 (137 + 9) = .inl (2, 2, .inl c) := (d5.2.2 146 (by omega)).trans b1
    refine ⟨zm_s h4 146 (.inl (2, 2, .inl (upd c j 1))), ?_, zo_setI (I := (upd Y.2.2.2.2.1.1 j 1, fun q => if q = j then Y.1 else Y.2.2.2.2.1.2 q)) O1 a1 ⟨by rw [zg_sn (by omega)]; exact d2.1, by rw [zg_sn (by omega)]; exact d2.2⟩ (zs_Pk a2 v3 fun q q1 q2 => d4 q (by omega)) ⟨upd c j 1, zg_ss, fun q hq => ?_⟩ (fun q hq hq1 => ?_) (fun b b1 b2 b3 => by rw [zg_sn (by omega)]; exact d5.2.2 b (by omega)), zFr_tr (zFr_mn d5 (by omega) (by omega)) (zFr_s (by omega) (by omega))⟩
    · rcases i5 j hj2 with z | z
      · simp only [zc190, zB190, m0, e', a1.1, ej, d1', d2.1, zor21, b1', zq_al_o hj2 h2, b2 j hj2, z, zx_bool, zq_as_o hj2 h2, zm_nx, zq_rc_o, zq_bi_o, zq_bl_o, zq_bv_o, not_true_eq_false, not_false_eq_true, if_true, if_false, h10, ite_self]
      · simp only [zc190, zB190, m0, e', a1.1, ej, d1', d2.1, zor21, b1', zq_al_o hj2 h2, b2 j hj2, z, zx_bool, zq_as_o hj2 h2, zm_nx, zq_rc_o, zq_bi_o, zq_bl_o, zq_bv_o, not_true_eq_false, not_false_eq_true, if_true, if_false, h10, ite_self]
    · show _ = upd Y.2.2.2.2.1.1 j 1 q
      by_cases z : q = j
      · subst z
        rw [pk_us, pk_us]
      · rw [pk_un z, pk_un z]
        exact b2 q hq
    · show zs_P g4 (31 * (q + 1)) (if q = j then Y.1 else Y.2.2.2.2.1.2 q)
      by_cases z : q = j
      · subst z
        rw [if_pos rfl]
        exact zs_Pc a2 v3 d3
      · rw [if_neg z]
        have : upd Y.2.2.2.2.1.1 j 1 q = 1 := hq1
        rw [pk_un z] at this
        exact zs_Pk (b3 q hq this) (i7 q hq this).1.1 fun r r1 r2 => d4 r (by omega)
theorem zt_back (x : Int32) (hK : zk_K h Y) (hO : zo_K h Y) : zt_R 99 191 [.int x] h := by
  have k0 := hK.1
  obtain ⟨kV, kO, kd⟩ := hK.2.1
  obtain ⟨ad, Q, -, -, v1, v2, v3, v4⟩ := zV_row kV
  obtain ⟨A, g, a1, a2, a3, -⟩ := id hO
  have h10 : ¬ (1 : Int32) = 0 := by decide
  obtain ⟨⟨gi, i1, i2⟩, ⟨gk, i3, i4⟩, i5, i6, i7⟩ := id hK.2.2.2.2.2.1
  have c0 := qc_within (h := h) x 1
  have m0 := fun h : zm_H => qm_in (h := h) x 0 1 (0 : Int64) (1 : Int64) (by decide) (by decide)
  have h2 : (2 : Nat) < 2 ^ 31 := by decide
  obtain ⟨A, g, a1, a2, a3, -, -, -, -, -, -, -, ⟨c, b1, b2⟩, b3, -⟩ := id hO
  have b1' : zm_g h (137 + 9) = .inl (2, 2, .inl c) := b1
  rcases zw_in_c x (u := 1) (by decide) with e | ⟨j, hj, ex, e⟩
  · have e' : zw_in x 0 1 = 0 := e
    refine zt_ro (r := -1) hK hO ?_ ?_
    · simp only [zc99, zB99, c0, e', zm_nx, zq_rc_o, zq_bi_o, zq_bl_o, zq_bv_o, not_true_eq_false, not_false_eq_true, if_true, if_false, h10, ite_self]
    · simp only [zc191, zB191, m0, e', zm_nx, zq_rc_o, zq_bi_o, zq_bl_o, zq_bv_o, not_true_eq_false, not_false_eq_true, if_true, if_false, h10, ite_self]
  · subst ex
    have e' : zw_in (nI j) 0 1 = 1 := e
    have hj2 : j < 2 := by omega
    rcases i5 j hj2 with z | z
    · refine zt_ro (r := -2) hK hO ?_ ?_
      · simp only [zc99, zB99, c0, e', k0, zkr12, i3, zq_al_o hj2 h2, i4 j hj2, z, zm_nx, zq_rc_o, zq_bi_o, zq_bl_o, zq_bv_o, not_true_eq_false, not_false_eq_true, if_true, if_false, h10, ite_self]
      · simp only [zc191, zB191, m0, e', a1.1, zor21, b1', zq_al_o hj2 h2, b2 j hj2, z, zm_nx, zq_rc_o, zq_bi_o, zq_bl_o, zq_bv_o, not_true_eq_false, not_false_eq_true, if_true, if_false, h10, ite_self]
    · obtain ⟨h1, s1, s2, s3⟩ := qv_copy (p := 1) (q := 107 + 10 * j) (by omega) kV (i6 j hj2)
      have k1 : zm_g h1 0 = _ := (s3.2.2 0 (by omega)).trans k0
      obtain ⟨ad0, Q0, -, -, u1, -⟩ := zV_row s2
      refine zt_mk hO (r := nI (Y.2.2.2.2.1.2 j).2.2.2.2) ?_ (zk_now hK s2 (i7 j hj2 z).1 (i7 j hj2 z).2 s3) (zFr_mn s3 (by omega) (by omega)) fun O1 => ?_
      · simp only [zc99, zB99, c0, e', k0, zkr12, i3, zq_al_o hj2 h2, i4 j hj2, z, zkr0, zkr11, i1, zq_ql_o hj2 h2 (i2 j hj2), v1, s1, k1, u1, zgi_1_3, zm_nx, zq_rc_o, zq_bi_o, zq_bl_o, zq_bv_o, not_true_eq_false, not_false_eq_true, if_true, if_false, h10, ite_self]
      obtain ⟨A, g, a1, a2, a3, -, -, -, -, -, -, -, ⟨c, b1, b2⟩, b3, -⟩ := id O1
      have b1' : zm_g h1 (137 + 9) = .inl (2, 2, .inl c) := b1
      obtain ⟨h4, g4, d1, d2, d3, d4, d5⟩ := qm_copies (f := 31 * (j + 1)) (t := 0) (by omega) (by omega) (by omega) a1
      have P4 : zs_P g4 0 (Y.2.2.2.2.1.2 j) := zs_Pc (b3 j hj2 z) (i7 j hj2 z).1.1 d3
      have ej : (31 : Int32) * (nI j + 1) = nI (31 * (j + 1)) := by rw [nI_1, show (31 : Int32) = nI 31 from rfl, pk_mul]
      have d1' : zm_call 160 [.ref 137, .int (nI (31 * (j + 1))), .int (0 : Int32)] h1 = some (none, h4) := d1
      have e30 : ∀ f : Int32 → zm_O, zq_al (.inl (0, 186, .inl g4)) 0 (30 : Int32) f = f (nI (Y.2.2.2.2.1.2 j).2.2.2.2) := fun f => zy_al (j := 30) rfl (by decide) (by decide) P4.2.2.2
      refine ⟨h4, ?_, zo_now hK.2.2.2.2.2.1 O1 a1 d2 P4 (fun q q1 q2 => d4 q (by omega)) d5, zFr_mn d5 (by omega) (by omega)⟩
      simp only [zc191, zB191, m0, e', a1.1, zor21, b1', zq_al_o hj2 h2, b2 j hj2, z, ej, d1', d2.1, zor0, d2.2, e30, zm_nx, zq_rc_o, zq_bi_o, zq_bl_o, zq_bv_o, not_true_eq_false, not_false_eq_true, if_true, if_false, h10, ite_self]
end ZT53
