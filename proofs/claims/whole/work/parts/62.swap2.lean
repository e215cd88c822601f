section ZT61B
variable {h h0 : zm_H} {Y : zy_T} {A0 g0 A g : Nat → Int32} {i : Nat} {P : zp_T}
theorem qm_swi_l {x2 : Int32} {N : Nat} (hN : N ≤ 60) (ho : zp_ok P) (hd : P.2.2.2.2 < 1000) : ∀ (k j : Nat) (m b : Int32) (u : Value) (h : zm_H) (A g : Nat → Int32), i < j → j + k = P.1 → zo_J h0 h A0 g0 A g → zs_P g 0 P → ∃ h' A' g' u', zm_den 5 172 60 [.ref 137, .int (nI N), .int x2, .int m, .int b, .int (nI i), .int (nI j), u] [] h = zm_den 5 172 42 [.ref 137, .int (nI N), .int x2, .int (zp_swi N P i k j m b).1, .int (zp_swi N P i k j m b).2, .int (nI (i + 1)), .int (nI P.1), u'] [] h' ∧ zo_J h0 h' A0 g0 A' g' ∧ zs_P g' 0 P := by
  have i5 := ho.1
  intro k
  induction k with
  | zero =>
    intro j m b u h A g hij hj J hP
    have e15 : ∀ f : Int32 → zm_O, zq_al (.inl (0, 186, .inl g)) 0 (15 : Int32) f = f (nI P.1) := fun f => zy_al (j := 15) rfl (by decide) (by decide) hP.1
    have : j = P.1 := by omega
    subst this
    refine ⟨h, A, g, u, ?_, J, hP⟩
    rw [zb172_60]
    simp only [J.1.1, zor0, J.1.2, e15, nI_le5 i5 i5, Nat.le_refl, if_true, zm_nx, zb172_198, nI_1, zp_swi]
  | succ k ih =>
    intro j m b u h A g hij hj J hP
    have e15 : ∀ f : Int32 → zm_O, zq_al (.inl (0, 186, .inl g)) 0 (15 : Int32) f = f (nI P.1) := fun f => zy_al (j := 15) rfl (by decide) (by decide) hP.1
    obtain ⟨h1, g1, c1, c2, c3, c4⟩ := zo_Jc J hP ho.1 (t := 155) (by omega)
    have c1' : zm_call 160 [.ref 137, .int (0 : Int32), .int (155 : Int32)] h = some (none, h1) := c1
    obtain ⟨h2, g2, w1, J2, w3, w4⟩ := qm_ex_l (i := i) (j := j) (x1 := nI N) (x2 := x2) (x3 := m) (x4 := b) (by omega) (by omega) (by omega) c2
    have k1 : ∀ q, q < 155 → g2 q = g1 q := fun q hq => w4 q fun c hc => by omega
    have ii : i < P.1 := by omega
    have jj : j < P.1 := by omega
    have z0 := w3 0 (Or.inl rfl)
    have z5 := w3 5 (Or.inr (Or.inl rfl))
    have z10 := w3 10 (Or.inr (Or.inr rfl))
    have g1P : ∀ k, k < P.1 → g1 (0 + k) = (P.2.1 k).1 ∧ g1 (5 + k) = (P.2.1 k).2.1 ∧ g1 (10 + k) = (P.2.1 k).2.2 - 20 := fun k hk => by
      have := hP.2.1 k hk
      rw [Nat.zero_add] at this ⊢
      rw [c4 _ (by omega), c4 _ (by omega), c4 _ (by omega)]
      have t := hP.2.1 k hk
      simp only [Nat.zero_add] at t
      exact t
    have P2 : zs_P g2 155 (zp_ex P i j) := by
      refine ⟨by rw [w4 _ fun c hc => by omega]; exact c3.1, fun k hk => ?_, fun d hd => ?_, by rw [w4 _ fun c hc => by omega]; exact c3.2.2.2⟩
      · have hk' : k < P.1 := hk
        show _ = (if k = j then P.2.1 i else if k = i then P.2.1 j else P.2.1 k).1 ∧ _ = (if k = j then P.2.1 i else if k = i then P.2.1 j else P.2.1 k).2.1 ∧ _ = (if k = j then P.2.1 i else if k = i then P.2.1 j else P.2.1 k).2.2 - 20
        by_cases z : k = j
        · subst z
          rw [if_pos rfl]
          exact ⟨z0.2.trans (g1P i ii).1, z5.2.trans (g1P i ii).2.1, z10.2.trans (g1P i ii).2.2⟩
        · rw [if_neg z]
          by_cases y : k = i
          · subst y
            rw [if_pos rfl]
            exact ⟨z0.1.trans (g1P j jj).1, z5.1.trans (g1P j jj).2.1, z10.1.trans (g1P j jj).2.2⟩
          · rw [if_neg y, w4 _ fun c hc => by omega, w4 _ fun c hc => by omega, w4 _ fun c hc => by omega]
            exact c3.2.1 k hk'
      · rw [w4 _ fun c hc => by omega, w4 _ fun c hc => by omega]
        exact c3.2.2.1 d hd
    have ho2 := zp_ok_ex (i := i) (j := j) ho ii jj
    obtain ⟨h3, A3, g3, r, d1, d2, d3, -, -, d5, -, -, d4⟩ := zo_Jd (f := 155) (N := N) J2 (Or.inr rfl) P2 ho2 (by show P.2.2.2.2 + N < _; omega)
    have d1' : zm_call 161 [.ref 137, .int (155 : Int32), .int (nI N)] h2 = some (none, h3) := d1
    obtain ⟨T, eT⟩ : ∃ T, T = zp_chg N (zp_ex P i j) 0 := ⟨_, rfl⟩
    rw [← eT] at d5
    have P3 : zs_P g3 0 P := zs_Pk hP i5 fun q _ _ => by rw [d4 q (by omega), k1 q (by omega), c4 q (by omega)]
    have E : zm_den 5 172 60 [.ref 137, .int (nI N), .int x2, .int m, .int b, .int (nI i), .int (nI j), u] [] h = (if m ≤ T then zm_den 5 172 171 [.ref 137, .int (nI N), .int x2, .int m, .int b, .int (nI i), .int (nI j), .int (nI 15)] [] h3 else zm_den 5 172 160 [.ref 137, .int (nI N), .int x2, .int m, .int b, .int (nI i), .int (nI j), .int (nI 15)] [] h3) := by
      rw [zb172_60]
      simp only [J.1.1, zor0, J.1.2, e15, nI_le5 i5 (show j ≤ 5 by omega), show ¬ P.1 ≤ j by omega, if_false, zm_nx]
      rw [zb172_72]
      simp only [J.1.1, zq_rc_o, c1', zq_bv_o, zm_nx]
      rw [w1, zb172_144]
      simp only [J2.1.1, zq_rc_o, d1', zq_bv_o, d2.1.1, zoi16, d5, zm_nx]
    rw [E, zp_swi, ← eT]
    by_cases y : m ≤ T
    · obtain ⟨h', A', g', u', e1, e2, e3⟩ := ih (j + 1) m b (.int (nI 15)) h3 A3 g3 (by omega) (by omega) d2 P3
      refine ⟨h', A', g', u', ?_, e2, e3⟩
      rw [if_pos y, if_pos y, zb172_171, zm_nx, zb172_173]
      simp only [d2.1.1, zoi16, d5, y, if_true, zm_nx]
      rw [zb172_190, zm_nx, zb172_191, zm_nx, nI_1]
      exact e1
    · obtain ⟨h', A', g', u', e1, e2, e3⟩ := ih (j + 1) T (10 * nI i + nI j) (.int (nI 15)) h3 A3 g3 (by omega) (by omega) d2 P3
      refine ⟨h', A', g', u', ?_, e2, e3⟩
      rw [if_neg y, if_neg y, zb172_160, zm_nx, zb172_173]
      simp only [d2.1.1, zoi16, d5, y, if_false, zm_nx]
      rw [zb172_183]
      simp only [d2.1.1, zoi16, d5, zm_nx]
      rw [zb172_191, zm_nx, nI_1]
      exact e1
theorem qm_swo_l {x2 : Int32} {N : Nat} (hN : N ≤ 60) (ho : zp_ok P) (hd : P.2.2.2.2 < 1000) : ∀ (k i : Nat) (m b : Int32) (u w : Value) (h : zm_H) (A g : Nat → Int32), i + k = P.1 → zo_J h0 h A0 g0 A g → zs_P g 0 P → ∃ h' A' g', zm_den 5 172 42 [.ref 137, .int (nI N), .int x2, .int m, .int b, .int (nI i), u, w] [] h = some (some (.int (zx_ch (zp_swo N P k i m b).2 (zp_swo N P k i m b).1 x2)), h') ∧ zo_J h0 h' A0 g0 A' g' ∧ zs_P g' 0 P := by
  have i5 := ho.1
  have h10 : ¬ (1 : Int32) = 0 := by decide
  intro k
  induction k with
  | zero =>
    intro i m b u w h A g hi J hP
    have e15 : ∀ f : Int32 → zm_O, zq_al (.inl (0, 186, .inl g)) 0 (15 : Int32) f = f (nI P.1) := fun f => zy_al (j := 15) rfl (by decide) (by decide) hP.1
    refine ⟨h, A, g, ?_, J, hP⟩
    rw [zb172_42]
    simp only [J.1.1, zor0, J.1.2, e15, nI_le5 i5 (show i ≤ 5 by omega), show P.1 ≤ i by omega, if_true, zm_nx, zb172_204, zp_swo, zx_ch]
    by_cases z : b = -4
    · simp only [zB172, z, zm_nx, zq_rc_o, zq_bi_o, zq_bl_o, zq_bv_o, not_true_eq_false, not_false_eq_true, if_true, if_false, h10, ite_self]
    · by_cases y : x2 = 0
      · simp only [zB172, z, y, zm_nx, zq_rc_o, zq_bi_o, zq_bl_o, zq_bv_o, not_true_eq_false, not_false_eq_true, if_true, if_false, h10, ite_self]
      · simp only [zB172, z, y, zm_nx, zq_rc_o, zq_bi_o, zq_bl_o, zq_bv_o, not_true_eq_false, not_false_eq_true, if_true, if_false, h10, ite_self]
  | succ k ih =>
    intro i m b u w h A g hi J hP
    have e15 : ∀ f : Int32 → zm_O, zq_al (.inl (0, 186, .inl g)) 0 (15 : Int32) f = f (nI P.1) := fun f => zy_al (j := 15) rfl (by decide) (by decide) hP.1
    obtain ⟨h1, A1, g1, u1, e1, e2, e3⟩ := qm_swi_l (i := i) (x2 := x2) hN ho hd k (i + 1) m b w h A g (by omega) (by omega) J hP
    obtain ⟨h2, A2, g2, d1, d2, d3⟩ := ih (i + 1) (zp_swi N P i k (i + 1) m b).1 (zp_swi N P i k (i + 1) m b).2 (.int (nI P.1)) u1 h1 A1 g1 (by omega) e2 e3
    refine ⟨h2, A2, g2, ?_, d2, d3⟩
    rw [zb172_42]
    simp only [J.1.1, zor0, J.1.2, e15, nI_le5 i5 (show i ≤ 5 by omega), show ¬ P.1 ≤ i by omega, if_false, zm_nx]
    rw [zb172_54, zm_nx, nI_1, e1]
    exact d1
/-- 1 to u -/
theorem zw_1_c (x : Int32) {u : Nat} (hu : u < 2 ^ 31 - 1) : (x < 1 ∧ zw_in x 1 (nI u) = 0) ∨ (¬ x < 1 ∧ nI u < x ∧ zw_in x 1 (nI u) = 0) ∨ ∃ j, 1 ≤ j ∧ j ≤ u ∧ x = nI j ∧ ¬ x < 1 ∧ ¬ nI u < x ∧ zw_in x 1 (nI u) = 1 := by
  unfold zw_in
  by_cases h1 : x < 1
  · exact Or.inl ⟨h1, if_pos h1⟩
  · by_cases h2 : nI u < x
    · exact Or.inr (Or.inl ⟨h1, h2, by rw [if_neg h1, if_pos h2]⟩)
    · refine Or.inr (Or.inr ?_)
      have h0 : ¬ x < 0 := by
        rw [Int32.lt_iff_toInt_lt] at h1 ⊢
        have : (1 : Int32).toInt = 1 := by decide
        have : (0 : Int32).toInt = 0 := by decide
        omega
      obtain ⟨j, hj, e⟩ := nI_of h0
      subst e
      have hju : j ≤ u := by
        rcases Nat.lt_or_ge u j with q | q
        · exact absurd (nI_lt q (by omega)) h2
        · exact q
      have h1j : 1 ≤ j := by
        rcases Nat.lt_or_ge 0 j with q | q
        · exact q
        · have : j = 0 := by omega
          subst this
          exact absurd (by decide) h1
      exact ⟨j, h1j, hju, rfl, h1, h2, by rw [if_neg h1, if_neg h2]⟩
theorem zt_swap (x y : Int32) (hK : zk_K h Y) (hO : zo_K h Y) : zt_R 84 172 [.int x, .int y] h := by
  have k0 := hK.1
  obtain ⟨kV, kO, kd⟩ := hK.2.1
  obtain ⟨ad, Q, -, -, v1, v2, v3, v4⟩ := zV_row kV
  obtain ⟨A, g, a1, a2, a3, -⟩ := id hO
  have h10 : ¬ (1 : Int32) = 0 := by decide
  have m0 := fun h : zm_H => qm_in (h := h) x 1 60 (1 : Int64) (60 : Int64) (by decide) (by decide)
  have c1 := qc_within (h := h) y 1
  have m1 := fun h : zm_H => qm_in (h := h) y 0 1 (0 : Int64) (1 : Int64) (by decide) (by decide)
  rcases zw_1_c x (u := 60) (by decide) with ⟨e1, e2⟩ | ⟨e0, e1, e2⟩ | ⟨N, h1N, hN, ex, e0, e1, e2⟩
  · have e' : zw_in x 1 60 = 0 := e2
    refine zt_ro (r := -1) hK hO ?_ ?_
    · simp only [zc84, zB84, e1, zm_nx, zq_rc_o, zq_bi_o, zq_bl_o, zq_bv_o, not_true_eq_false, not_false_eq_true, if_true, if_false, h10, ite_self]
    · simp only [zc172, zB172, m0, e', zm_nx, zq_rc_o, zq_bi_o, zq_bl_o, zq_bv_o, not_true_eq_false, not_false_eq_true, if_true, if_false, h10, ite_self]
  · have e' : zw_in x 1 60 = 0 := e2
    have e1' : (60 : Int32) < x := e1
    refine zt_ro (r := -1) hK hO ?_ ?_
    · simp only [zc84, zB84, e0, e1', zm_nx, zq_rc_o, zq_bi_o, zq_bl_o, zq_bv_o, not_true_eq_false, not_false_eq_true, if_true, if_false, h10, ite_self]
    · simp only [zc172, zB172, m0, e', zm_nx, zq_rc_o, zq_bi_o, zq_bl_o, zq_bv_o, not_true_eq_false, not_false_eq_true, if_true, if_false, h10, ite_self]
  · have e' : zw_in x 1 60 = 1 := e2
    have e1' : ¬ (60 : Int32) < x := e1
    rcases zw_in_c y (u := 1) (by decide) with f | ⟨w, hw, ey, f⟩
    · have f' : zw_in y 0 1 = 0 := f
      refine zt_ro (r := -1) hK hO ?_ ?_
      · simp only [zc84, zB84, e0, e1', c1, f', zm_nx, zq_rc_o, zq_bi_o, zq_bl_o, zq_bv_o, not_true_eq_false, not_false_eq_true, if_true, if_false, h10, ite_self]
      · simp only [zc172, zB172, m0, e', m1, f', zm_nx, zq_rc_o, zq_bi_o, zq_bl_o, zq_bv_o, not_true_eq_false, not_false_eq_true, if_true, if_false, h10, ite_self]
    · have f' : zw_in y 0 1 = 1 := f
      obtain ⟨h1, t1, t2, t3, t4⟩ := zk_trial hK
      obtain ⟨ad0, Q0, -, -, u1, u2, u3, u4⟩ := zV_row hK.2.2.1.1.choose_spec
      obtain ⟨ad1, Q1, -, -, y1, y2, y3, y4⟩ := zV_row t2
      obtain ⟨h2, r1, r2, r3⟩ := qv_chg (N := N) t2 (by omega)
      have K2 := zk_tr t3 r2 r3
      obtain ⟨h3, b1, b2, b3⟩ := qc_swo_l (x2 := y) hN Y.1.1 0 (zp_chg N Y.1 0) (-4) .null .null h2 (by omega) K2
      have F3 : zm_Fr h h3 11 21 := zFr_tr t4 (zFr_tr r3 b3)
      rw [← ex] at r1 b1
      refine zt_mk hO (r := zx_ch (zp_swo N Y.1 Y.1.1 0 (zp_chg N Y.1 0) (-4)).2 (zp_swo N Y.1 Y.1.1 0 (zp_chg N Y.1 0) (-4)).1 y) ?_ b2 (zFr_mn F3 (by omega) (by omega)) fun O1 => ?_
      · rw [zc84, zm_nx, zb84_0, if_neg e0, zm_nx, zb84_5, if_neg e1', zm_nx, zb84_11]
        simp only [c1, f', zq_bi_o, h10, not_false_eq_true, if_true, zm_nx]
        rw [zb84_21]
        simp only [k0, zkr1, zkr0, u1, zq_rc_o, t1, zq_bv_o, t3.1, y1, r1, zq_bi_o, zm_nx]
        exact b1
      obtain ⟨A, g, J, a2⟩ := zo_J0 O1
      obtain ⟨h4, A4, g4, r, d1, d2, d3, -, -, d5, -, -, d4⟩ := zo_Jd (f := 0) (N := N) J (Or.inl (by omega)) a2 kO (by omega)
      have d1' : zm_call 161 [.ref 137, .int (0 : Int32), .int x] h3 = some (none, h4) := by rw [ex]; exact d1
      obtain ⟨h5, A5, g5, q1, q2, q3⟩ := qm_swo_l (x2 := y) hN kO kd Y.1.1 0 (zp_chg N Y.1 0) (-4) .null .null h4 A4 g4 (by omega) d2 (zs_Pk a2 v3 fun q _ _ => d4 q (by omega))
      rw [← ex] at q1
      have R := zo_Je (P := Y.1) hK.2.2.2.2.2.1 O1 J.1 q2 q3
      refine ⟨h5, ?_, R.1, R.2⟩
      rw [zc172, zm_nx, zb172_0]
      simp only [m0, e', zq_bi_o, h10, if_false, zm_nx]
      rw [zb172_12]
      simp only [m1, f', zq_bi_o, h10, not_false_eq_true, if_true, zm_nx]
      rw [zb172_24]
      simp only [J.1.1, zq_rc_o, d1', zq_bv_o, d2.1.1, zoi16, d5, zm_nx]
      exact q1
end ZT61B
