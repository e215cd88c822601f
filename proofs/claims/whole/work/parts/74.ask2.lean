section ZT74
variable {h h0 : zm_H} {Y : zy_T} {A0 g0 A g : Nat → Int32} {P : zp_T} {i : Nat} {dd : Nat → Int32} {x1 x2 : Int32}
theorem qm_alk_i {F n q a : Nat} {m w : Int32} (hF : F < 16) (hn : n < 31) (ha : a < 4) (hb : zx_bt F a = true) (J : zo_J h0 h A0 g0 A g) (hdd : zm_g h 145 = .inl (0, 124, .inl dd)) (hD : ∀ a, a < 4 → ∀ t, t < 31 → dd (31 * a + t) = zp_D P i t a) : ∀ (k b c : Nat), b + k = 4 → zm_den 6 188 64 [.ref 137, .int x1, .int x2, .int (nI F), .int m, .int w, .int (nI n), .int (nI q), .int (nI a), .int (nI c), .int (nI b)] [] h = zm_den 6 188 135 [.ref 137, .int x1, .int x2, .int (nI F), .int m, .int w, .int (nI n), .int (nI q), .int (nI a), .int (nI (zx_cn F (fun b => decide (zp_D P i n a = zp_D P i n b)) k b c)), .int (nI 4)] [] h := by
  have c145 : zm_g h (137 + 8) = .inl (0, 124, .inl dd) := hdd
  have l : ∀ (a : Nat), a < 4 → ∀ o : Int32 → zm_O, zq_al (.inl (0, 124, .inl dd)) 0 ((31 : Int32) * nI a + nI n) o = o (zp_D P i n a) := fun a ha o => zy_al (j := 31 * a + n) (by rw [show (31 : Int32) * nI a = nI (31 * a) from pk_mul 31 a, nI_add]) (by omega) (by decide) (hD a ha n hn)
  intro k
  induction k with
  | zero =>
    intro b c hb4
    have : b = 4 := by omega
    subst this
    rw [zb188_64, if_pos (by decide), zm_nx]
    rfl
  | succ k ih =>
    intro b c hb4
    have hlt : ¬ (4 : Int32) ≤ nI b := nI_ge (a := b) (b := 4) (by omega) (by decide)
    rw [zb188_64, if_neg hlt, zm_nx, zb188_70, if_neg (fun q => (zx_bitF hF ha).mp q hb), zm_nx, zb188_80]
    unfold zx_cn
    by_cases y : zx_bt F b = true
    · rw [if_neg (fun q => (zx_bitF hF (by omega)).mp q y), zm_nx, zb188_92]
      simp only [J.1.1, zor20, c145, l a ha, l b (by omega), zm_nx]
      by_cases x : zp_D P i n a = zp_D P i n b
      · rw [if_neg (not_not_intro x), zb188_121, zm_nx, zb188_126, zm_nx, nI_1, nI_1, if_pos ⟨y, decide_eq_true x⟩]
        exact ih (b + 1) (c + 1) (by omega)
      · rw [if_pos x, zb188_125, zm_nx, zb188_126, zm_nx, nI_1, Int32.add_zero, if_neg (fun q => x (of_decide_eq_true q.2))]
        exact ih (b + 1) c (by omega)
    · rw [if_pos ((zx_bitF hF (by omega)).mpr y), zm_nx, zb188_125, zm_nx, zb188_126, zm_nx, nI_1, Int32.add_zero, if_neg (fun q => y q.1)]
      exact ih (b + 1) c (by omega)
theorem qm_alk_o {F n : Nat} {m w : Int32} (hF : F < 16) (hn : n < 31) (J : zo_J h0 h A0 g0 A g) (hdd : zm_g h 145 = .inl (0, 124, .inl dd)) (hD : ∀ a, a < 4 → ∀ t, t < 31 → dd (31 * a + t) = zp_D P i t a) : ∀ (k a q : Nat) (v9 v10 : Value), a + k = 4 → q ≤ 4 → ∃ u9 u10, zm_den 6 188 52 [.ref 137, .int x1, .int x2, .int (nI F), .int m, .int w, .int (nI n), .int (nI q), .int (nI a), v9, v10] [] h = zm_den 6 188 157 [.ref 137, .int x1, .int x2, .int (nI F), .int m, .int w, .int (nI n), .int (nI (zx_mr F (fun a b => decide (zp_D P i n a = zp_D P i n b)) k a q)), .int (nI 4), u9, u10] [] h := by
  intro k
  induction k with
  | zero =>
    intro a q v9 v10 ha hq
    have : a = 4 := by omega
    subst this
    refine ⟨v9, v10, ?_⟩
    rw [zb188_52, if_pos (by decide), zm_nx]
    rfl
  | succ k ih =>
    intro a q v9 v10 ha hq
    have hlt : ¬ (4 : Int32) ≤ nI a := nI_ge (a := a) (b := 4) (by omega) (by decide)
    obtain ⟨c, ec⟩ : ∃ c, c = zx_rc F (fun a b => decide (zp_D P i n a = zp_D P i n b)) a := ⟨_, rfl⟩
    have hc : c ≤ 4 := by
      rw [ec]
      unfold zx_rc
      have := zx_cn_le (F := F) (e := fun b => decide (zp_D P i n a = zp_D P i n b)) 4 0 0
      split <;> omega
    have E : ∃ u10 : Int32, zm_den 6 188 52 [.ref 137, .int x1, .int x2, .int (nI F), .int m, .int w, .int (nI n), .int (nI q), .int (nI a), v9, v10] [] h = zm_den 6 188 135 [.ref 137, .int x1, .int x2, .int (nI F), .int m, .int w, .int (nI n), .int (nI q), .int (nI a), .int (nI c), .int u10] [] h := by
      rw [zb188_52, if_neg hlt, zm_nx, zb188_58, zm_nx]
      by_cases y : zx_bt F a = true
      · have L := qm_alk_i (q := q) (m := m) (w := w) (x1 := x1) (x2 := x2) hF hn (show a < 4 by omega) y J hdd hD 4 0 0 (by omega)
        have L' : zm_den 6 188 64 [.ref 137, .int x1, .int x2, .int (nI F), .int m, .int w, .int (nI n), .int (nI q), .int (nI a), .int 0, .int 0] [] h = _ := L
        refine ⟨nI 4, ?_⟩
        rw [L', ec]
        unfold zx_rc
        rw [if_pos y]
      · refine ⟨0, ?_⟩
        rw [zb188_64, if_neg (by decide), zm_nx, zb188_70, if_pos ((zx_bitF hF (by omega)).mpr y), zm_nx, ec]
        unfold zx_rc
        rw [if_neg y]
        rfl
    obtain ⟨u10, E⟩ := E
    rw [E, zb188_135]
    unfold zx_mr
    simp only [← ec]
    by_cases y : q < c
    · obtain ⟨w9, w10, I⟩ := ih (a + 1) c (.int (nI c)) (.int u10) (by omega) hc
      refine ⟨w9, w10, ?_⟩
      rw [if_neg (nI_ge y (by omega)), zm_nx, zb188_142, zm_nx, zb188_149, zm_nx, nI_1]
      simp only [if_pos y]
      exact I
    · obtain ⟨w9, w10, I⟩ := ih (a + 1) q (.int (nI c)) (.int u10) (by omega) hq
      refine ⟨w9, w10, ?_⟩
      rw [if_pos (nI_le (by omega) (by omega)), zm_nx, zb188_147, zm_nx, zb188_149, zm_nx, nI_1]
      simp only [if_neg y]
      exact I
theorem qm_ask_l {F : Nat} (hF : F < 16) (J : zo_J h0 h A0 g0 A g) (hdd : zm_g h 145 = .inl (0, 124, .inl dd)) (hD : ∀ a, a < 4 → ∀ t, t < 31 → dd (31 * a + t) = zp_D P i t a) : ∀ (k n : Nat) (m w : Int32) (v7 v8 v9 v10 : Value), n + k = 31 → zm_den 6 188 39 [.ref 137, .int x1, .int x2, .int (nI F), .int m, .int w, .int (nI n), v7, v8, v9, v10] [] h = some (some (.int (zx_ch (zp_ask (fun n => nI (zx_mc F (fun a b => decide (zp_D P i n a = zp_D P i n b)) 4 0 0)) k n m w).2 (zp_ask (fun n => nI (zx_mc F (fun a b => decide (zp_D P i n a = zp_D P i n b)) 4 0 0)) k n m w).1 x2)), h) := by
  have h10 : ¬ (1 : Int32) = 0 := by decide
  intro k
  induction k with
  | zero =>
    intro n m w v7 v8 v9 v10 hn
    have : n = 31 := by omega
    subst this
    rw [zb188_39, if_pos (by decide), zm_nx, zb188_195]
    simp only [zp_ask, zx_ch]
    by_cases z : w = -4
    · simp only [zB188, z, zm_nx, zq_rc_o, zq_bi_o, zq_bl_o, zq_bv_o, not_true_eq_false, not_false_eq_true, if_true, if_false, h10, ite_self]
    · by_cases y : x2 = 0
      · simp only [zB188, z, y, zm_nx, zq_rc_o, zq_bi_o, zq_bl_o, zq_bv_o, not_true_eq_false, not_false_eq_true, if_true, if_false, h10, ite_self]
      · simp only [zB188, z, y, zm_nx, zq_rc_o, zq_bi_o, zq_bl_o, zq_bv_o, not_true_eq_false, not_false_eq_true, if_true, if_false, h10, ite_self]
  | succ k ih =>
    intro n m w v7 v8 v9 v10 hn
    have hlt : ¬ (30 : Int32) < nI n := nI_nlt (a := 30) (by omega) (by decide)
    obtain ⟨u9, u10, L⟩ := qm_alk_o (m := m) (w := w) (x1 := x1) (x2 := x2) hF (show n < 31 by omega) J hdd hD 4 0 0 v9 v10 (by omega) (by omega)
    have L' : zm_den 6 188 52 [.ref 137, .int x1, .int x2, .int (nI F), .int m, .int w, .int (nI n), .int 0, .int 0, v9, v10] [] h = _ := L
    rw [← zx_mcr hF] at L'
    obtain ⟨T, eT⟩ : ∃ T, T = nI (zx_mc F (fun a b => decide (zp_D P i n a = zp_D P i n b)) 4 0 0) := ⟨_, rfl⟩
    rw [← eT] at L'
    rw [zb188_39, if_neg hlt, zm_nx, zb188_46, zm_nx, L', zb188_157]
    unfold zp_ask
    simp only [← eT]
    by_cases y : m ≤ T
    · simp only [if_pos y]
      rw [zm_nx, zb188_169, zm_nx, zb188_171, if_pos y, zm_nx, zb188_185, zm_nx, zb188_187, zm_nx, nI_1]
      exact ih (n + 1) m w _ _ _ _ (by omega)
    · simp only [if_neg y]
      rw [zm_nx, zb188_164, zm_nx, zb188_171, if_neg y, zm_nx, zb188_180, zm_nx, zb188_187, zm_nx, nI_1]
      exact ih (n + 1) T (nI n) _ _ _ _ (by omega)
theorem zt_ask (x y : Int32) (hK : zk_K h Y) (hO : zo_K h Y) : zt_R 96 188 [.int x, .int y] h := by
  have k0 := hK.1
  obtain ⟨kV, kO, kd⟩ := hK.2.1
  obtain ⟨ad, Q, -, -, v1, v2, v3, v4⟩ := zV_row kV
  obtain ⟨A, g, a1, a2, a3, -⟩ := id hO
  have h10 : ¬ (1 : Int32) = 0 := by decide
  have c0 := qc_isfig (x := x) k0 kV
  have m0 := qm_isfig (x := x) a1 a2 v3
  have c1 := qc_within (h := h) y 1
  have m1 := fun h : zm_H => qm_in (h := h) y 0 1 (0 : Int64) (1 : Int64) (by decide) (by decide)
  rcases zw_fig_c x v3 with e | ⟨i, hi, ex, e⟩
  · refine zt_ro (r := -1) hK hO ?_ ?_
    · simp only [zc96, zB96, k0, c0, e, zm_nx, zq_rc_o, zq_bi_o, zq_bl_o, zq_bv_o, not_true_eq_false, not_false_eq_true, if_true, if_false, h10, ite_self]
    · simp only [zc188, zB188, a1.1, m0, e, zm_nx, zq_rc_o, zq_bi_o, zq_bl_o, zq_bv_o, not_true_eq_false, not_false_eq_true, if_true, if_false, h10, ite_self]
  · subst ex
    rw [e] at c0 m0
    rcases zw_in_c y (u := 1) (by decide) with f | ⟨N, hN, ey, f⟩
    · have f' : zw_in y 0 1 = 0 := f
      refine zt_ro (r := -1) hK hO ?_ ?_
      · simp only [zc96, zB96, k0, c0, c1, f', zm_nx, zq_rc_o, zq_bi_o, zq_bl_o, zq_bv_o, not_true_eq_false, not_false_eq_true, if_true, if_false, h10, ite_self]
      · simp only [zc188, zB188, a1.1, m0, m1, f', zm_nx, zq_rc_o, zq_bi_o, zq_bl_o, zq_bv_o, not_true_eq_false, not_false_eq_true, if_true, if_false, h10, ite_self]
    · have f' : zw_in y 0 1 = 1 := f
      obtain ⟨F, hF, eF⟩ := zp_fb_n (s := Y.2.2.2.1) (i := i) (w := 0) (P := Y.1) 4 0 0 (by omega) (by decide)
      have eF' : zp_fb Y.2.2.2.1 i 0 Y.1 4 0 0 = nI F := eF
      obtain ⟨h1, b1, b2, b3⟩ := qc_fb (w := 0) (M := 3) hi (by decide) hK
      have b1' : zm_call 116 [.ref 0, .int (nI i), .int (0 : Int32), .int (3 : Int32)] h = some (some (.int (nI F)), h1) := by rw [← eF']; exact b1
      obtain ⟨h2, d1, d2, d3, d4⟩ := qc_fbk_l hi 4 0 h1 (by omega) b2 (fun c hc => absurd hc (by omega))
      have d1' : zm_call 120 [.ref 0, .int (nI i)] h1 = some (none, h2) := by
        rw [zc120, zm_nx, zb120_0, zm_nx]
        exact d1
      have L := qc_ask_l (x1 := nI i) (x2 := y) hF d2 d3 31 0 (zc_cnt (nI F)) (-4) .null (by omega)
      have F2 : zm_Fr h h2 11 91 := zFr_tr (zFr_mn b3 (by omega) (by omega)) d4
      refine zt_mk hO (r := zx_ch (zp_ask (fun n => nI (zx_mc F (fun a b => decide (zp_D Y.1 i n a = zp_D Y.1 i n b)) 4 0 0)) 31 0 (zc_cnt (nI F)) (-4)).2 (zp_ask (fun n => nI (zx_mc F (fun a b => decide (zp_D Y.1 i n a = zp_D Y.1 i n b)) 4 0 0)) 31 0 (zc_cnt (nI F)) (-4)).1 y) ?_ d2 (zFr_mn F2 (by omega) (by omega)) fun O1 => ?_
      · rw [zc96, zm_nx, zb96_0]
        simp only [k0, zq_rc_o, c0, zq_bi_o, h10, if_false, zm_nx]
        rw [zb96_8]
        simp only [c1, f', zq_bi_o, h10, not_false_eq_true, if_true, zm_nx]
        rw [zb96_18]
        simp only [k0, zq_rc_o, b1', zq_bi_o, b2.1, d1', zq_bv_o, qc_count, zm_nx]
        exact L
      obtain ⟨A, g, sa, J, a2, hA, hm, h144, hs⟩ := zo_Js0 O1 hK
      have m0 := qm_isfig (x := nI i) J.1 a2 v3
      rw [e] at m0
      obtain ⟨h3, g3, q1, q2, q3, dd, q4, q5⟩ := qm_kindsOf hi hA hm h144 hs kO kd J a2
      rw [eF'] at q1
      have bo := qm_bitsN (h := h3) (b := F) (by omega)
      have L2 := qm_ask_l (P := Y.1) (i := i) (x1 := nI i) (x2 := y) hF q2 q4 q5 31 0 (zc_cnt (nI F)) (-4) .null .null .null .null (by omega)
      have R := zo_Je (P := Y.1) hK.2.2.2.2.2.1 O1 J.1 q2 q3
      refine ⟨h3, ?_, R.1, R.2⟩
      rw [zc188, zm_nx, zb188_0]
      simp only [J.1.1, zq_rc_o, m0, zq_bi_o, h10, if_false, zm_nx]
      rw [zb188_8]
      simp only [m1, f', zq_bi_o, h10, not_false_eq_true, if_true, zm_nx]
      rw [zb188_20]
      simp only [J.1.1, zq_rc_o, q1, zq_bi_o, bo, zm_nx]
      exact L2
end ZT74
