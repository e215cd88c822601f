section ZT89
variable {h h0 : zm_H} {t : tk_T} {A0 g0 A r : Nat → Int32} {Y : zy_T}
theorem qm_zero {x1 : Int32} : ∀ (k i : Nat) (h : zm_H) (r : Nat → Int32), i + k = 31 → zo_Q h0 h A0 g0 A r → ∃ h' r', zm_den 6 133 19 [.ref 137, .int x1, .int (nI i)] [] h = zm_den 6 133 38 [.ref 137, .int x1, .int (nI 31)] [] h' ∧ zo_Q h0 h' A0 g0 A r' ∧ (∀ j, i ≤ j → j < 31 → r' j = 0) ∧ ∀ j, j < i → r' j = r j := by
  intro k
  induction k with
  | zero =>
    intro i h r hi Q
    have : i = 31 := by omega
    subst this
    refine ⟨h, r, ?_, Q, fun j h1 h2 => absurd h1 (by omega), fun _ _ => rfl⟩
    rw [zb133_19, if_pos (by decide), zm_nx]
  | succ k ih =>
    intro i h r hi Q
    have c0 : zm_g h (137 + 2) = .inl (0, 31, .inl r) := Q.2.1
    have Q1 := zo_Qr (r' := upd r i 0) Q
    obtain ⟨h', r', e1, e2, e3, e4⟩ := ih (i + 1) _ _ (by omega) Q1
    refine ⟨h', r', ?_, e2, fun j h1 h2 => ?_, fun j hj => by rw [e4 j (by omega), pk_un (by omega)]⟩
    · rw [zb133_19, if_neg (show ¬ (31 : Int32) ≤ nI i from nI_ge (b := 31) (by omega) (by decide)), zm_nx, zb133_25, Q.1.1, zor1, c0, zq_as_o (show i < 31 by omega) (by decide), zm_nx, nI_1]
      exact e1
    · by_cases z : j = i
      · subst z
        rw [e4 _ (by omega), pk_us]
      · exact e3 j (by omega) h2
theorem qm_cp {x1 : Int32} {r : Nat → Int32} : ∀ (k i : Nat) (h : zm_H) (g : Nat → Int32), i + k = 31 → zo_M h 137 A g → zm_g h 139 = .inl (0, 31, .inl r) → ∃ h' g', zm_den 6 133 96 [.ref 137, .int x1, .int (nI i)] [] h = zm_den 6 133 120 [.ref 137, .int x1, .int (nI 31)] [] h' ∧ zo_M h' 137 A g' ∧ (∀ j, i ≤ j → j < 31 → g' j = r j) ∧ (∀ j, (j < i ∨ 31 ≤ j) → g' j = g j) ∧ zm_Fr h h' 138 139 := by
  intro k
  induction k with
  | zero =>
    intro i h g hi M c
    have : i = 31 := by omega
    subst this
    refine ⟨h, g, ?_, M, fun j h1 h2 => absurd h1 (by omega), fun _ _ => rfl, zFr_rf _ _ _⟩
    rw [zb133_96, if_pos (by decide), zm_nx]
  | succ k ih =>
    intro i h g hi M c
    have c0 : zm_g h (137 + 2) = .inl (0, 31, .inl r) := c
    have M1 : zo_M (zm_s h (137 + 1) (.inl (0, 186, .inl (upd g i (r i))))) 137 A (upd g i (r i)) := ⟨by rw [zg_sn (by omega)]; exact M.1, zg_ss⟩
    obtain ⟨h', g', e1, e2, e3, e4, e5⟩ := ih (i + 1) _ _ (by omega) M1 (by rw [zg_sn (by omega)]; exact c)
    refine ⟨h', g', ?_, e2, fun j h1 h2 => ?_, fun j hj => by rw [e4 j (by omega), pk_un (by omega)], zFr_tr (zFr_s (by omega) (by omega)) e5⟩
    · rw [zb133_96, if_neg (show ¬ (31 : Int32) ≤ nI i from nI_ge (b := 31) (by omega) (by decide)), zm_nx, zb133_102, M.1, zor0, zor1, c0, zq_al_o (show i < 31 by omega) (by decide), M.2, zq_as_o (show i < 186 by omega) (by decide), zm_nx, nI_1]
      exact e1
    · by_cases z : j = i
      · subst z
        rw [e4 _ (by omega), pk_us]
      · exact e3 j (by omega) h2
theorem qm_text0 (hO : zo_K h Y) (hX : Y.2.1.1 ≤ 160 ∧ ∀ j, j < Y.2.1.1 → ∃ c, c < 128 ∧ Y.2.1.2 j = nI c) {A g r : Nat → Int32} (M : zo_M h 137 A g) (hr : zm_g h 139 = .inl (0, 31, .inl r)) : ∃ h' A' r' x1, zm_call 133 [.ref 137] h = zm_den 6 133 66 [.ref 137, .int x1, .int (nI 31)] [] h' ∧ zo_Q h h' A g A' r' ∧ A' 6 = nI (tk_tx Y.2.1).1 ∧ (tk_tx Y.2.1).1 < 100 ∧ (¬ (tk_tx Y.2.1).1 = 0 → A' 7 = nI (tk_tx Y.2.1).2.1) ∧ ((tk_tx Y.2.1).1 = 0 → x1 = nI (tk_tx Y.2.1).2.2.1 ∧ zs_P r' 0 (tk_tx Y.2.1).2.2.2) := by
  obtain ⟨A1, g1, a1, a2, a3, -, b5, b6, b7, -⟩ := id hO
  have B : zo_B h Y.2.1 A := ⟨((zo_gu a1 M).2.1.symm).trans a3.1, hX.1, hX.2, b5⟩
  have B2 : zo_B2 h := ⟨b6, b7⟩
  have Q0 : zo_Q h h A g A r := ⟨M, hr, fun _ _ _ => rfl, rfl, rfl, fun _ _ _ => rfl⟩
  have Q1 := zo_Qs (c := 6) (x := 0) Q0 (by decide)
  have Q2 := zo_Qs (c := 8) (x := 0) Q1 (by decide)
  have Q3 := zo_Qs (c := 2) (x := 0) Q2 (by decide)
  obtain ⟨h4, r4, e4, Q4, z4, -⟩ := qm_zero (x1 := 0) 31 0 _ _ (by omega) Q3
  have P4 : zs_P r4 0 zp_new := ⟨z4 _ (by omega) (by omega), fun i hi => absurd hi (Nat.not_lt_zero _), fun d hd => ⟨(z4 _ (by omega) (by omega)).trans (show (0 : Int32) = 1 - 1 by decide), (z4 _ (by omega) (by omega)).trans (show (0 : Int32) = 4 - 4 by decide)⟩, z4 _ (by omega) (by omega)⟩
  have u6 : upd (upd (upd A 6 0) 8 0) 2 0 6 = 0 := by rw [pk_un (by decide), pk_un (by decide), pk_us]
  have u8 : upd (upd (upd A 6 0) 8 0) 2 0 8 = nI 0 := by rw [pk_un (by decide), pk_us]; rfl
  have u2 : upd (upd (upd A 6 0) 8 0) 2 0 2 = nI 0 := by rw [pk_us]; rfl
  obtain ⟨h5, A5, e5, Q5, L5, t5⟩ := qm_step (p := 0) B (Nat.zero_le _) Q4 u6 u8
  obtain ⟨h6, A6, r6, x1, e6, Q6, w⟩ := qm_all (x2 := nI 31) B B2 161 0 h5 A5 r4 zp_new 0 0 (Nat.zero_le _) (by omega) (by decide) zp_ok_new Q5 L5 (t5.trans u2) P4
  refine ⟨h6, A6, r6, x1, ?_, Q6, w⟩
  rw [zc133, zm_nx, zb133_0, M.1, zop6, zg_ss, zop8, zg_ss, zop2, zm_nx]
  refine Eq.trans e4 ?_
  rw [zb133_38, Q4.1.1, zq_rc_o, e5, zq_bv_o, zm_nx]
  exact e6
theorem zt_text (hK : zk_K h Y) (hO : zo_K h Y) : zt_R 64 133 [] h := by
  obtain ⟨t0, t1, -⟩ := hK.2.2.2.1
  by_cases hc : (tk_tx Y.2.1).1 = 0
  · obtain ⟨h1, e1, K1, F1⟩ := qc_text2 hK hc
    refine zt_mk hO e1 K1 F1 fun O1 => ?_
    obtain ⟨A, g, a1, a2, a3, ⟨r, a4⟩, b5, b6, b7, b8, b9, b10, b11, b12, b13⟩ := id O1
    obtain ⟨h2, A2, r2, x1, e2, Q2, c6, cl, -, cz⟩ := qm_text0 O1 ⟨t0, t1⟩ a1 a4
    obtain ⟨ex, P2⟩ := cz hc
    rw [hc] at c6
    have c60 : A2 6 = 0 := c6
    obtain ⟨q1, q2, q3, q4, q5, q6⟩ := id Q2
    have M3 : zo_M (zm_s h2 137 (.inr (7, zo_c 137 (upd (upd A2 4 0) 5 0)))) 137 (upd (upd A2 4 0) 5 0) g := ⟨zg_ss, by rw [zg_sn (by omega)]; exact q1.2⟩
    have u6 : upd A2 4 0 6 = 0 := by rw [pk_un (by decide)]; exact c60
    have w6 : upd (upd A2 4 0) 5 0 6 = 0 := by rw [pk_un (by decide)]; exact u6
    obtain ⟨h4, g4, e4, M4, z1, z2, F4⟩ := qm_cp (x1 := x1) 31 0 _ g (by omega) M3 (by rw [zg_sn (by omega)]; exact q2)
    obtain ⟨cc, d1, d2⟩ := b11
    have d4 : zm_g h4 146 = .inl (2, 2, .inl cc) := by rw [F4.2.2 146 (by omega), zg_sn (by omega), q6 146 (by omega) (by omega)]; exact d1
    obtain ⟨H, eH⟩ : ∃ H, H = zm_s (zm_s h4 137 (.inr (7, zo_c 137 (upd (upd (upd A2 4 0) 5 0) 19 0)))) (137 + 9) (.inl (2, 2, .inl (upd (upd cc 0 0) 1 0))) := ⟨_, rfl⟩
    have kk : ∀ b, b ≠ 137 → b ≠ 138 → b ≠ 139 → b ≠ 146 → zm_g H b = zm_g h1 b := fun b b1 b2 b3 b4 => by rw [eH, zg_sn b4, zg_sn b1, F4.2.2 b (by omega), zg_sn b1, q6 b b1 b3]
    refine ⟨H, ?_, ?_, ?_⟩
    · have a0 : ∀ (f : va_E → zm_O), zq_as (.inl (2, 2, .inl cc)) 2 (0 : Int32) (vp_nar .boolean 0) f = f (.inl (2, 2, .inl (upd cc 0 0))) := fun f => by rw [zx_bool0]; exact zq_as_o (j := 0) (by decide) (by decide)
      have a1' : ∀ (f : va_E → zm_O), zq_as (.inl (2, 2, .inl (upd cc 0 0))) 2 (1 : Int32) (vp_nar .boolean 0) f = f (.inl (2, 2, .inl (upd (upd cc 0 0) 1 0))) := fun f => by rw [zx_bool0]; exact zq_as_o (j := 1) (by decide) (by decide)
      have d5 : zm_g (zm_s h4 137 (.inr (7, zo_c 137 (upd (upd (upd A2 4 0) 5 0) 19 0)))) (137 + 9) = .inl (2, 2, .inl cc) := by rw [zg_sn (by omega)]; exact d4
      rw [e2, zb133_66, q1.1, zop4, zg_ss, zoi6, u6, zop5, zs_ss, zg_ss, zoi6, w6, if_pos (by decide), zm_nx, zb133_94, zm_nx]
      refine Eq.trans e4 ?_
      rw [zb133_120, M4.1, zop19, zg_ss, zor21, d5, a0, zg_sn (by omega), zg_ss, zor21, zg_ss, a1', zs_ss, ← eH, ex]
    · refine ⟨upd (upd (upd A2 4 0) 5 0) 19 0, g4, ⟨by rw [eH, zg_sn (by omega), zg_ss], by rw [eH, zg_sn (by omega), zg_sn (by omega)]; exact M4.2⟩, ?_, ⟨?_, ?_, ?_, ?_⟩, ⟨r2, ?_⟩, ?_, zx_k (kk 141 (by omega) (by omega) (by omega) (by omega)) b6, zx_k (kk 142 (by omega) (by omega) (by omega) (by omega)) b7, zx_k1 (kk 143 (by omega) (by omega) (by omega) (by omega)) b8, ?_, zx_k1 (kk 145 (by omega) (by omega) (by omega) (by omega)) b10, ?_, fun j _ w => absurd (show (0 : Int32) = 1 from w) (by decide), ?_⟩
      · exact zs_Pc P2 (tk_all_ok t1 161 0 zp_new 0 0 (by decide) (Nat.zero_le _) zp_ok_new hc).1.1 fun j hj => by rw [Nat.zero_add]; exact z1 j (Nat.zero_le _) hj
      · show upd (upd (upd A2 4 0) 5 0) 19 0 4 = nI 0
        rw [pk_un (by decide), pk_un (by decide), pk_us]; rfl
      · show upd (upd (upd A2 4 0) 5 0) 19 0 5 = 0
        rw [pk_un (by decide), pk_us]
      · show upd (upd (upd A2 4 0) 5 0) 19 0 19 = nI 0
        rw [pk_us]; rfl
      · show upd (upd (upd A2 4 0) 5 0) 19 0 25 = Y.2.2.1.2
        rw [pk_un (by decide), pk_un (by decide), pk_un (by decide), q3 25 (by decide) (by decide)]
        exact a3.2.2.2
      · rw [eH, zg_sn (by omega), zg_sn (by omega), F4.2.2 139 (by omega), zg_sn (by omega)]; exact q2
      · obtain ⟨w, w1, -⟩ := b5
        exact ⟨w, (kk 140 (by omega) (by omega) (by omega) (by omega)).trans w1, fun j hj => absurd hj (Nat.not_lt_zero _)⟩
      · obtain ⟨w, w1, -⟩ := b9
        exact ⟨w, (kk 144 (by omega) (by omega) (by omega) (by omega)).trans w1, fun j hj => absurd hj (Nat.not_lt_zero _)⟩
      · refine ⟨_, by rw [eH]; exact zg_ss, fun j hj => ?_⟩
        show upd (upd cc 0 0) 1 0 j = 0
        by_cases z : j = 1
        · subst z; rw [pk_us]
        · rw [pk_un z, show j = 0 by omega, pk_us]
      · obtain ⟨x13, x14, x15⟩ := b13
        exact ⟨zx_k (kk 147 (by omega) (by omega) (by omega) (by omega)) x13, zx_k (kk 148 (by omega) (by omega) (by omega) (by omega)) x14, zx_k (kk 149 (by omega) (by omega) (by omega) (by omega)) x15⟩
    · have FA : zm_Fr h1 h2 137 150 := ⟨q4, q5, fun b hb => q6 b (by omega) (by omega)⟩
      rw [eH]
      exact zFr_tr (zFr_tr FA (zFr_s (by omega) (by omega))) (zFr_tr (zFr_mn F4 (by omega) (by omega)) (zFr_tr (zFr_s (by omega) (by omega)) (zFr_s (by omega) (by omega))))
  · have lt : (tk_tx Y.2.1).1 < 100 := by
      obtain ⟨A, g, a1, a2, a3, ⟨r, a4⟩, -⟩ := id hO
      obtain ⟨h2, A2, r2, x1, e2, Q2, c6, cl, -⟩ := qm_text0 hO ⟨t0, t1⟩ a1 a4
      exact cl
    obtain ⟨h1, e1, K1, F1⟩ := qc_text1 hK hc lt
    refine zt_mk hO e1 K1 F1 fun O1 => ?_
    obtain ⟨A, g, a1, a2, a3, ⟨r, a4⟩, b5, b6, b7, b8, b9, b10, b11, b12, b13⟩ := id O1
    obtain ⟨h2, A2, r2, x1, e2, Q2, c6, cl, cf, -⟩ := qm_text0 O1 ⟨t0, t1⟩ a1 a4
    have c7 := cf hc
    obtain ⟨q1, q2, q3, q4, q5, q6⟩ := id Q2
    obtain ⟨H, eH⟩ : ∃ H, H = zm_s h2 137 (.inr (7, zo_c 137 (upd (upd A2 4 0) 5 (nI (tk_tx Y.2.1).1)))) := ⟨_, rfl⟩
    have M3 : zo_M H 137 (upd (upd A2 4 0) 5 (nI (tk_tx Y.2.1).1)) g := by rw [eH]; exact ⟨zg_ss, by rw [zg_sn (by omega)]; exact q1.2⟩
    have u6 : upd A2 4 0 6 = nI (tk_tx Y.2.1).1 := by rw [pk_un (by decide)]; exact c6
    have w6 : upd (upd A2 4 0) 5 (nI (tk_tx Y.2.1).1) 6 = nI (tk_tx Y.2.1).1 := by rw [pk_un (by decide)]; exact u6
    have w7 : upd (upd A2 4 0) 5 (nI (tk_tx Y.2.1).1) 7 = nI (tk_tx Y.2.1).2.1 := by rw [pk_un (by decide), pk_un (by decide)]; exact c7
    have kk : ∀ b, b ≠ 137 → b ≠ 139 → zm_g H b = zm_g h1 b := fun b b1 b3 => by rw [eH, zg_sn b1, q6 b b1 b3]
    refine ⟨H, ?_, ?_, ?_⟩
    · rw [e2, zb133_66, q1.1, zop4, zg_ss, zoi6, u6, zop5, zs_ss, ← eH, M3.1, zoi6, w6, if_neg (nI_nle (by omega) (by omega)), zm_nx, zb133_86, M3.1, zoi7, w7]
    · refine ⟨upd (upd A2 4 0) 5 (nI (tk_tx Y.2.1).1), g, M3, a2, ⟨?_, ?_, ?_, ?_⟩, ⟨r2, ?_⟩, ?_, zx_k (kk 141 (by omega) (by omega)) b6, zx_k (kk 142 (by omega) (by omega)) b7, zx_k1 (kk 143 (by omega) (by omega)) b8, zx_k (kk 144 (by omega) (by omega)) b9, zx_k1 (kk 145 (by omega) (by omega)) b10, zx_k (kk 146 (by omega) (by omega)) b11, b12, ?_⟩
      · show upd (upd A2 4 0) 5 (nI (tk_tx Y.2.1).1) 4 = nI 0
        rw [pk_un (by decide), pk_us]; rfl
      · show upd (upd A2 4 0) 5 (nI (tk_tx Y.2.1).1) 5 = nI (tk_tx Y.2.1).1
        rw [pk_us]
      · show upd (upd A2 4 0) 5 (nI (tk_tx Y.2.1).1) 19 = nI Y.2.2.2.1.1
        rw [pk_un (by decide), pk_un (by decide), q3 19 (by decide) (by decide)]
        exact a3.2.2.1
      · show upd (upd A2 4 0) 5 (nI (tk_tx Y.2.1).1) 25 = Y.2.2.1.2
        rw [pk_un (by decide), pk_un (by decide), q3 25 (by decide) (by decide)]
        exact a3.2.2.2
      · rw [eH, zg_sn (by omega)]; exact q2
      · obtain ⟨w, w1, -⟩ := b5
        exact ⟨w, (kk 140 (by omega) (by omega)).trans w1, fun j hj => absurd hj (Nat.not_lt_zero _)⟩
      · obtain ⟨x13, x14, x15⟩ := b13
        exact ⟨zx_k (kk 147 (by omega) (by omega)) x13, zx_k (kk 148 (by omega) (by omega)) x14, zx_k (kk 149 (by omega) (by omega)) x15⟩
    · rw [eH]
      exact zFr_tr ⟨q4, q5, fun b hb => q6 b (by omega) (by omega)⟩ (zFr_s (by omega) (by omega))
end ZT89
