def zx_ch (b v w : Int32) : Int32 := if b = -4 then b else if ¬ w = 0 then v else b
theorem zV_eq {h : zm_H} {p : Nat} {P Q : zp_T} (hV : zp_V h p P) (e : zp_eqv P Q) : zp_V h p Q := by
  obtain ⟨ad, R, h1, h2⟩ := hV
  exact ⟨ad, R, h1, zv_tr h2 e⟩
section ZT59
variable {h h0 : zm_H} {Y : zy_T} {A0 g0 A g : Nat → Int32} {i : Nat}
theorem qc_chosen {b v w : Int32} : zm_call 108 [.int b, .int v, .int w] h = some (some (.int (zx_ch b v w)), h) := by
  have h10 : ¬ (1 : Int32) = 0 := by decide
  unfold zx_ch
  by_cases z : b = -4
  · simp only [zc108, zB108, z, zm_nx, zq_rc_o, zq_bi_o, zq_bl_o, zq_bv_o, not_true_eq_false, not_false_eq_true, if_true, if_false, h10, ite_self]
  · by_cases y : w = 0
    · simp only [zc108, zB108, z, y, zm_nx, zq_rc_o, zq_bi_o, zq_bl_o, zq_bv_o, not_true_eq_false, not_false_eq_true, if_true, if_false, h10, ite_self]
    · simp only [zc108, zB108, z, y, zm_nx, zq_rc_o, zq_bi_o, zq_bl_o, zq_bv_o, not_true_eq_false, not_false_eq_true, if_true, if_false, h10, ite_self]
def zp_buck (P : zp_T) : Nat → Nat → Int32 → Int32 → Int32 × Int32
  | 0, _, m, b => (m, b)
  | k + 1, i, m, b => if (P.2.1 i).2.1 ≤ 0 then zp_buck P k (i + 1) m b else if m ≤ zp_ruled (-4) 60 (zp_sf P i (3, (P.2.1 i).2.1, (P.2.1 i).2.2)) 0 then zp_buck P k (i + 1) m b else zp_buck P k (i + 1) (zp_ruled (-4) 60 (zp_sf P i (3, (P.2.1 i).2.1, (P.2.1 i).2.2)) 0) (nI i)
theorem qc_buck_l {x1 : Int32} : ∀ (k i : Nat) (m b : Int32) (u : Value) (h : zm_H), i + k = Y.1.1 → zk_K h Y → ∃ h', zm_den 7 83 37 [.ref 0, .int x1, .int m, .int b, .int (nI i), u] [] h = some (some (.int (zx_ch (zp_buck Y.1 k i m b).2 (zp_buck Y.1 k i m b).1 x1)), h') ∧ zk_K h' Y ∧ zm_Fr h h' 11 21 := by
  have h10 : ¬ (1 : Int32) = 0 := by decide
  intro k
  induction k with
  | zero =>
    intro i m b u h hi hK
    obtain ⟨ad, Q, -, -, v1, v2, v3, v4⟩ := zV_row hK.2.1.1
    refine ⟨h, ?_, hK, zFr_rf _ _ _⟩
    rw [zb83_37]
    simp only [hK.1, zkr0, v1, zgr_1_0, v2, zgi_2_1, nI_le5 v3 (show i ≤ 5 by omega), show Y.1.1 ≤ i by omega, if_true, zm_nx, zb83_128, qc_chosen, zq_bi_o, zp_buck]
  | succ k ih =>
    intro i m b u h hi hK
    have k0 := hK.1
    obtain ⟨kV, kO, kd⟩ := hK.2.1
    obtain ⟨ad, Q, -, -, v1, v2, v3, v4⟩ := zV_row kV
    have hi' : i < Y.1.1 := by omega
    obtain ⟨ga, a, d1, d2, d3, d4, d5⟩ := zV_fig kV hi'
    have st := qc_stands d3
    have E : zm_den 7 83 37 [.ref 0, .int x1, .int m, .int b, .int (nI i), u] [] h = (if (Y.1.2.1 i).2.1 ≤ 0 then zm_den 7 83 122 [.ref 0, .int x1, .int m, .int b, .int (nI i), u] [] h else zm_den 7 83 71 [.ref 0, .int x1, .int m, .int b, .int (nI i), u] [] h) := by
      rw [zb83_37]
      simp only [k0, zkr0, v1, zgr_1_0, v2, zgi_2_1, nI_le5 v3 (show i ≤ 5 by omega), show ¬ Y.1.1 ≤ i by omega, if_false, zm_nx, zb83_52, zgr_2_0, d1, zq_ql_o (show i < 5 by omega) (by decide) d2, d3, zrf_c, st, zq_bi_o]
      by_cases z : (Y.1.2.1 i).2.1 ≤ 0
      · simp only [z, if_true]
      · simp only [z, if_false, h10]
    rw [E]
    by_cases z : (Y.1.2.1 i).2.1 ≤ 0
    · obtain ⟨h', e1, e2, e3⟩ := ih (i + 1) m b u h (by omega) hK
      refine ⟨h', ?_, e2, e3⟩
      rw [if_pos z, zb83_122, zm_nx, nI_1, zp_buck, if_pos z]
      exact e1
    · rw [if_neg z, zp_buck, if_neg z]
      obtain ⟨h1, t1, t2, t3, t4⟩ := zk_trial hK
      obtain ⟨gb, c, s1, s2, s3, s4, s5, s6⟩ := zV_sf t2 hi'
      obtain ⟨ad0, Q0, -, -, u1, u2, u3, u4⟩ := zV_row hK.2.2.1.1.choose_spec
      obtain ⟨ad1, Q1, -, -, y1, y2, y3, y4⟩ := zV_row t2
      obtain ⟨f, ef⟩ : ∃ f : zf_T, f = (3, (Y.1.2.1 i).2.1, (Y.1.2.1 i).2.2) := ⟨_, rfl⟩
      have V2 := s6 (zm_s h1 c (zf_c f)) (fun b _ _ hb => zg_sn hb) f zg_ss
      have F2 : zm_Fr h1 (zm_s h1 c (zf_c f)) 11 21 := zFr_s (by omega) (by omega)
      have K2 := zk_tr t3 V2 F2
      obtain ⟨h3, r1, r2, r3⟩ := qv_unruled (N := 60) V2 (by show Y.1.2.2.2.2 + 60 < _; omega)
      have r1' : zm_call 34 [.ref 11, .int (60 : Int32)] (zm_s h1 c (zf_c f)) = some (some (.int (zp_ruled (-4) 60 (zp_sf Y.1 i f) 0)), h3) := r1
      obtain ⟨T, eT⟩ : ∃ T, T = zp_ruled (-4) 60 (zp_sf Y.1 i f) 0 := ⟨_, rfl⟩
      rw [← eT] at r1'
      obtain ⟨ad2, Q2, -, -, w1, -⟩ := zV_row V2
      have K3 := zk_tr K2 r2 r3
      have E2 : zm_den 7 83 71 [.ref 0, .int x1, .int m, .int b, .int (nI i), u] [] h = (if m ≤ T then zm_den 7 83 122 [.ref 0, .int x1, .int m, .int b, .int (nI i), .int T] [] h3 else zm_den 7 83 116 [.ref 0, .int x1, .int m, .int b, .int (nI i), .int T] [] h3) := by
        rw [zb83_71]
        simp only [k0, zkr1, zkr0, u1, zq_rc_o, t1, zq_bv_o, t3.1, y1, zgr_1_0, y2, zgr_2_0, s1, zq_ql_o (show i < 5 by omega) (by decide) s2, s3, zpf_0, ← ef, K2.1, w1, r1', zq_bi_o, zm_nx]
      rw [E2, ← ef, ← eT]
      have F3 : zm_Fr h h3 11 21 := zFr_tr t4 (zFr_tr F2 r3)
      by_cases y : m ≤ T
      · obtain ⟨h', e1, e2, e3⟩ := ih (i + 1) m b (.int T) h3 (by omega) K3
        refine ⟨h', ?_, e2, zFr_tr F3 e3⟩
        rw [if_pos y, zb83_122, zm_nx, nI_1, if_pos y]
        exact e1
      · obtain ⟨h', e1, e2, e3⟩ := ih (i + 1) T (nI i) (.int T) h3 (by omega) K3
        refine ⟨h', ?_, e2, zFr_tr F3 e3⟩
        rw [if_neg y, zb83_116, zm_nx, zb83_122, zm_nx, nI_1, if_neg y]
        exact e1
theorem qm_buck_l {x1 : Int32} {P : zp_T} (ho : zp_ok P) (hd : P.2.2.2.2 < 1000) : ∀ (k i : Nat) (m b : Int32) (h : zm_H) (A g : Nat → Int32), i + k = P.1 → zo_J h0 h A0 g0 A g → zs_P g 0 P → ∃ h' A' g', zm_den 5 171 30 [.ref 137, .int x1, .int m, .int b, .int (nI i)] [] h = some (some (.int (zx_ch (zp_buck P k i m b).2 (zp_buck P k i m b).1 x1)), h') ∧ zo_J h0 h' A0 g0 A' g' ∧ zs_P g' 0 P := by
  have i5 := ho.1
  have h10 : ¬ (1 : Int32) = 0 := by decide
  intro k
  induction k with
  | zero =>
    intro i m b h A g hi J hP
    have e15 : ∀ f : Int32 → zm_O, zq_al (.inl (0, 186, .inl g)) 0 (15 : Int32) f = f (nI P.1) := fun f => zy_al (j := 15) rfl (by decide) (by decide) hP.1
    refine ⟨h, A, g, ?_, J, hP⟩
    rw [zb171_30]
    simp only [J.1.1, zor0, J.1.2, e15, nI_le5 i5 (show i ≤ 5 by omega), show P.1 ≤ i by omega, if_true, zm_nx, zb171_121, zp_buck, zx_ch]
    by_cases z : b = -4
    · simp only [zB171, z, zm_nx, zq_rc_o, zq_bi_o, zq_bl_o, zq_bv_o, not_true_eq_false, not_false_eq_true, if_true, if_false, h10, ite_self]
    · by_cases y : x1 = 0
      · simp only [zB171, z, y, zm_nx, zq_rc_o, zq_bi_o, zq_bl_o, zq_bv_o, not_true_eq_false, not_false_eq_true, if_true, if_false, h10, ite_self]
      · simp only [zB171, z, y, zm_nx, zq_rc_o, zq_bi_o, zq_bl_o, zq_bv_o, not_true_eq_false, not_false_eq_true, if_true, if_false, h10, ite_self]
  | succ k ih =>
    intro i m b h A g hi J hP
    have hi' : i < P.1 := by omega
    have e15 : ∀ f : Int32 → zm_O, zq_al (.inl (0, 186, .inl g)) 0 (15 : Int32) f = f (nI P.1) := fun f => zy_al (j := 15) rfl (by decide) (by decide) hP.1
    have e5 : ∀ f : Int32 → zm_O, zq_al (.inl (0, 186, .inl g)) 0 ((5 : Int32) + nI i) f = f (P.2.1 i).2.1 := fun f => zy_al (j := 0 + 5 + i) (by rw [Nat.zero_add]; exact nI_add 5 i) (by omega) (by decide) (hP.2.1 i hi').2.1
    have E : zm_den 5 171 30 [.ref 137, .int x1, .int m, .int b, .int (nI i)] [] h = (if (P.2.1 i).2.1 ≤ 0 then zm_den 5 171 115 [.ref 137, .int x1, .int m, .int b, .int (nI i)] [] h else zm_den 5 171 54 [.ref 137, .int x1, .int m, .int b, .int (nI i)] [] h) := by
      rw [zb171_30]
      simp only [J.1.1, zor0, J.1.2, e15, nI_le5 i5 (show i ≤ 5 by omega), show ¬ P.1 ≤ i by omega, if_false, zm_nx, zb171_42, e5]
    rw [E]
    by_cases z : (P.2.1 i).2.1 ≤ 0
    · obtain ⟨h', A', g', e1, e2, e3⟩ := ih (i + 1) m b h A g (by omega) J hP
      refine ⟨h', A', g', ?_, e2, e3⟩
      rw [if_pos z, zb171_115, zm_nx, nI_1, zp_buck, if_pos z]
      exact e1
    · rw [if_neg z, zp_buck, if_neg z]
      obtain ⟨h1, g1, c1, c2, c3, c4⟩ := zo_Jc J hP ho.1 (t := 155) (by omega)
      have c1' : zm_call 160 [.ref 137, .int (0 : Int32), .int (155 : Int32)] h = some (none, h1) := c1
      obtain ⟨f, ef⟩ : ∃ f : zf_T, f = (3, (P.2.1 i).2.1, (P.2.1 i).2.2) := ⟨_, rfl⟩
      have J2 := zo_Js (g2 := upd g1 (155 + i) 3) c2 fun q _ _ => pk_un (by omega)
      have P2 : zs_P (upd g1 (155 + i) 3) 155 (zp_sf P i f) := by
        refine zs_Psf c3 i5 (fun q _ _ _ _ _ => pk_un (by omega)) hi' ?_ ?_ ?_
        · rw [pk_us, ef]
        · rw [pk_un (by omega), ef]; exact (c3.2.1 i hi').2.1
        · rw [pk_un (by omega), ef]; exact (c3.2.1 i hi').2.2
      have fo : zf_ok f := by
        obtain ⟨kk, s, l, hk, hs, hl, e⟩ := ho.2.1 i hi'
        rw [ef, e]
        exact ⟨3, s, l, by decide, hs, hl, rfl⟩
      obtain ⟨h3, A3, g3, r, d1, d2, d3, d5, -, -, -, -, d4⟩ := zo_Jd (f := 155) (N := 60) J2 (Or.inr rfl) P2 (zp_ok_sf ho fo) (by show P.2.2.2.2 + 60 < _; omega)
      have d1' : zm_call 161 [.ref 137, .int (155 : Int32), .int (60 : Int32)] (zm_s h1 (137 + 1) (.inl (0, 186, .inl (upd g1 (155 + i) 3)))) = some (none, h3) := d1
      obtain ⟨T, eT⟩ : ∃ T, T = zp_ruled (-4) 60 (zp_sf P i f) 0 := ⟨_, rfl⟩
      rw [← eT] at d5
      have s1 : ∀ (x : Int32) (o : va_E → zm_O), zq_as (.inl (0, 186, .inl g1)) 0 ((155 : Int32) + nI i) x o = o (.inl (0, 186, .inl (upd g1 (155 + i) x))) := fun x o => by
        rw [show (155 : Int32) + nI i = nI (155 + i) from nI_add 155 i]
        exact zq_as_o (by omega) (by decide)
      have P3 : zs_P g3 0 P := zs_Pk hP i5 fun q _ _ => by rw [d4 q (by omega), pk_un (by omega), c4 q (by omega)]
      have E2 : zm_den 5 171 54 [.ref 137, .int x1, .int m, .int b, .int (nI i)] [] h = (if m ≤ T then zm_den 5 171 96 [.ref 137, .int x1, .int m, .int b, .int (nI i)] [] h3 else zm_den 5 171 91 [.ref 137, .int x1, .int m, .int b, .int (nI i)] [] h3) := by
        rw [zb171_54]
        simp only [J.1.1, zq_rc_o, c1', zq_bv_o, c2.1.1, zor0, c2.1.2, s1, J2.1.1, d1', d2.1.1, zoi14, d5, zm_nx]
      rw [E2, ← ef, ← eT]
      by_cases y : m ≤ T
      · obtain ⟨h', A', g', e1, e2, e3⟩ := ih (i + 1) m b h3 A3 g3 (by omega) d2 P3
        refine ⟨h', A', g', ?_, e2, e3⟩
        rw [if_pos y, if_pos y, zb171_96, zm_nx, zb171_97]
        simp only [d2.1.1, zoi14, d5, y, if_true, zm_nx]
        rw [zb171_113, zm_nx, zb171_114, zm_nx, zb171_115, zm_nx, nI_1]
        exact e1
      · obtain ⟨h', A', g', e1, e2, e3⟩ := ih (i + 1) T (nI i) h3 A3 g3 (by omega) d2 P3
        refine ⟨h', A', g', ?_, e2, e3⟩
        rw [if_neg y, if_neg y, zb171_91, zm_nx, zb171_97]
        simp only [d2.1.1, zoi14, d5, y, if_false, zm_nx]
        rw [zb171_106]
        simp only [d2.1.1, zoi14, d5, zm_nx]
        rw [zb171_114, zm_nx, zb171_115, zm_nx, nI_1]
        exact e1
theorem zt_bucket (x : Int32) (hK : zk_K h Y) (hO : zo_K h Y) : zt_R 83 171 [.int x] h := by
  have k0 := hK.1
  obtain ⟨kV, kO, kd⟩ := hK.2.1
  obtain ⟨ad, Q, -, -, v1, v2, v3, v4⟩ := zV_row kV
  obtain ⟨A, g, a1, a2, a3, -⟩ := id hO
  have h10 : ¬ (1 : Int32) = 0 := by decide
  have c1 := qc_within (h := h) x 1
  have m1 := fun h : zm_H => qm_in (h := h) x 0 1 (0 : Int64) (1 : Int64) (by decide) (by decide)
  rcases zw_in_c x (u := 1) (by decide) with f | ⟨N, hN, ey, f⟩
  · have f' : zw_in x 0 1 = 0 := f
    refine zt_ro (r := -1) hK hO ?_ ?_
    · simp only [zc83, zB83, c1, f', zm_nx, zq_rc_o, zq_bi_o, zq_bl_o, zq_bv_o, not_true_eq_false, not_false_eq_true, if_true, if_false, h10, ite_self]
    · simp only [zc171, zB171, m1, f', zm_nx, zq_rc_o, zq_bi_o, zq_bl_o, zq_bv_o, not_true_eq_false, not_false_eq_true, if_true, if_false, h10, ite_self]
  · have f' : zw_in x 0 1 = 1 := f
    obtain ⟨h1, t1, t2, t3, t4⟩ := zk_trial hK
    obtain ⟨ad0, Q0, -, -, u1, u2, u3, u4⟩ := zV_row hK.2.2.1.1.choose_spec
    obtain ⟨ad1, Q1, -, -, y1, y2, y3, y4⟩ := zV_row t2
    obtain ⟨h2, r1, r2, r3⟩ := qv_unruled (N := 60) t2 (by omega)
    have r1' : zm_call 34 [.ref 11, .int (60 : Int32)] h1 = some (some (.int (zp_ruled (-4) 60 Y.1 0)), h2) := r1
    obtain ⟨h3, b1, b2, b3⟩ := qc_buck_l (x1 := x) Y.1.1 0 (zp_ruled (-4) 60 Y.1 0) (-4) .null h2 (by omega) (zk_tr t3 r2 r3)
    have F3 : zm_Fr h h3 11 21 := zFr_tr t4 (zFr_tr r3 b3)
    refine zt_mk hO (r := zx_ch (zp_buck Y.1 Y.1.1 0 (zp_ruled (-4) 60 Y.1 0) (-4)).2 (zp_buck Y.1 Y.1.1 0 (zp_ruled (-4) 60 Y.1 0) (-4)).1 x) ?_ b2 (zFr_mn F3 (by omega) (by omega)) fun O1 => ?_
    · rw [zc83, zm_nx, zb83_0]
      simp only [c1, f', zq_bi_o, h10, not_false_eq_true, if_true, zm_nx]
      rw [zb83_10]
      simp only [k0, zkr1, zkr0, u1, zq_rc_o, t1, zq_bv_o, t3.1, y1, r1', zq_bi_o, zm_nx]
      exact b1
    obtain ⟨A, g, J, a2⟩ := zo_J0 O1
    obtain ⟨h4, A4, g4, r, d1, d2, d3, d5, -, -, -, -, d4⟩ := zo_Jd (f := 0) (N := 60) J (Or.inl (by omega)) a2 kO (by omega)
    have d1' : zm_call 161 [.ref 137, .int (0 : Int32), .int (60 : Int32)] h3 = some (none, h4) := d1
    obtain ⟨h5, A5, g5, q1, q2, q3⟩ := qm_buck_l (x1 := x) kO kd Y.1.1 0 (zp_ruled (-4) 60 Y.1 0) (-4) h4 A4 g4 (by omega) d2 (zs_Pk a2 v3 fun q _ _ => d4 q (by omega))
    have R := zo_Je (P := Y.1) hK.2.2.2.2.2.1 O1 J.1 q2 q3
    refine ⟨h5, ?_, R.1, R.2⟩
    rw [zc171, zm_nx, zb171_0]
    simp only [m1, f', zq_bi_o, h10, not_false_eq_true, if_true, zm_nx]
    rw [zb171_12]
    simp only [J.1.1, zq_rc_o, d1', zq_bv_o, d2.1.1, zoi14, d5, zm_nx]
    exact q1
end ZT59
