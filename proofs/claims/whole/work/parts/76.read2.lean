section ZT76
variable {h h0 : zm_H} {Y : zy_T} {A0 g0 A g : Nat → Int32} {P : zp_T}
theorem qm_read_l {k F n len : Nat} {l R0 : Int32} {la le ce C : Nat → Int32} (hk : k < 4) (hn : n ≤ 20) (h0K : zp_ok P) (hd0 : P.2.2.2.2 < 1000) (q1 : zm_g h0 147 = .inl (0, 4, .inl la)) (q2 : zm_g h0 148 = .inl (0, 4, .inl le)) (q3 : zm_g h0 149 = .inl (0, 160, .inl ce)) (r1 : la k = l) (hl4 : ¬ l = -4) (r2 : le k = nI len) (hlen : len ≤ 40) (r3 : ∀ i, i < 40 → ce (40 * k + i) = C i) (hF : F < len) : ∀ (c i : Nat) (h : zm_H) (g : Nat → Int32) (Q : zp_T) (v8 : Value), i + c = n → zo_J h0 h A0 g0 A g → zs_P g 0 Q → zp_ok Q → zp_ext P Q → zs_P g 93 P → ∃ h' g' A', zm_den 3 194 55 [.ref 137, .int (nI k), .int l, .int (nI F), .int (nI n), .int 0, .int (nI i), .int (nI (2 * i)), v8] [] h = some (some (.int (zp_rd C F len P R0 c i Q).1), h') ∧ ((0 ≤ (zp_rd C F len P R0 c i Q).1 ∧ ∃ hm, zo_J h0 hm A0 g0 A g' ∧ h' = zm_s hm 137 (.inr (7, zo_c 137 (upd A 25 (zp_rd C F len P R0 c i Q).2.1)))) ∨ ((zp_rd C F len P R0 c i Q).2.1 = R0 ∧ zo_J h0 h' A0 g0 A' g')) ∧ zs_P g' 0 (zp_rd C F len P R0 c i Q).2.2 := by
  have h10 : ¬ (1 : Int32) = 0 := by decide
  intro c
  induction c with
  | zero =>
    intro i h g Q v8 hi J hP ho he h93
    have : i = n := by omega
    subst this
    refine ⟨_, g, A, ?_, Or.inl ⟨?_, h, J, rfl⟩, hP⟩
    · rw [zb194_55, show (2 : Int32) * nI i = nI (2 * i) from pk_mul 2 i, if_pos (nI_le (Nat.le_refl _) (by omega)), zm_nx, zb194_196]
      simp only [J.1.1, zop25]
      rfl
    · exact nI_pos' (by omega)
  | succ c ih =>
    intro i h g Q v8 hi J hP ho he h93
    have j8 := J.2.2.2.2.2.2.2
    have c147 : zm_g h (137 + 10) = .inl (0, 4, .inl la) := (j8 147 (by decide) (by decide) (by decide) (by decide)).trans q1
    have c148 : zm_g h (137 + 11) = .inl (0, 4, .inl le) := (j8 148 (by decide) (by decide) (by decide) (by decide)).trans q2
    have c149 : zm_g h (137 + 12) = .inl (0, 160, .inl ce) := (j8 149 (by decide) (by decide) (by decide) (by decide)).trans q3
    have h4 : (4 : Nat) < 2 ^ 31 := by decide
    have lF : ∀ t, t < 2 ^ 30 → (nI F).toInt64 + (nI t).toInt64 = (nI (F + t)).toInt64 := fun t ht => by
      rw [nI_l (by omega), nI_l (by omega), nI_l (by omega), lN_add]
    have test : ∀ (t : Nat) (v8 : Value), t < 2 * n → t < 100 → zm_den 3 194 55 [.ref 137, .int (nI k), .int l, .int (nI F), .int (nI n), .int 0, .int (nI i), .int (nI t), v8] [] h = zm_den 3 194 125 [.ref 137, .int (nI k), .int l, .int (nI F), .int (nI n), .int 0, .int (nI i), .int (nI t), v8] [.int (if F + t < len then 0 else 2)] h := by
      intro t v8 ht ht2
      have m0 := qm_in (h := h) (nI (F + t)) 0 (nI len - 1) (0 : Int64) (nI len - 1).toInt64 (by decide) rfl
      rw [zw_fig_inL _ hlen] at m0
      rw [zb194_55, show (2 : Int32) * nI n = nI (2 * n) from pk_mul 2 n, if_neg (nI_ge ht (by omega)), zm_nx, zb194_64, if_neg (by decide), zm_nx, zb194_69]
      simp only [J.1.1, zor22, c147, zq_al_o hk h4, r1, zm_nx]
      rw [if_pos hl4, zb194_84]
      simp only [J.1.1, zor22, c147, zq_al_o hk h4, r1, if_true, zm_nx]
      rw [zb194_98]
      simp only [J.1.1, zor23, c148, zq_al_o hk h4, r2, lF t (by omega), m0, zq_bi_o, zm_nx]
      by_cases z : F + t < len
      · have e : zw_fig (nI (F + t)) len = 1 := by
          unfold zw_fig
          rw [if_neg (nI_pos (by omega)), if_neg (nI_ge z (by omega))]
        rw [e, if_pos (by decide), zb194_124, zm_nx, if_pos z]
      · have e : zw_fig (nI (F + t)) len = 0 := by
          unfold zw_fig
          rw [if_neg (nI_pos (by omega)), if_pos (nI_le (by omega) (by omega))]
        rw [e, if_neg (by decide), zb194_120, zm_nx, if_neg z]
    have out : ∀ (t : Nat) (v8 : Value), t ≤ 100 → zm_den 3 194 55 [.ref 137, .int (nI k), .int l, .int (nI F), .int (nI n), .int 2, .int (nI i), .int (nI t), v8] [] h = some (some (.int (nI i)), zm_s h 137 (.inr (7, zo_c 137 (upd A 25 2)))) := by
      intro t v8 ht
      have e : zm_den 3 194 196 [.ref 137, .int (nI k), .int l, .int (nI F), .int (nI n), .int 2, .int (nI i), .int (nI t), v8] [] h = some (some (.int (nI i)), zm_s h 137 (.inr (7, zo_c 137 (upd A 25 2)))) := by
        rw [zb194_196]
        simp only [J.1.1, zop25]
      rw [zb194_55]
      by_cases z : (2 : Int32) * nI n ≤ nI t
      · rw [if_pos z]
        exact e
      · rw [if_neg z, zm_nx, zb194_64, if_pos (by decide)]
        exact e
    have t0 := test (2 * i) v8 (by omega) (by omega)
    unfold zp_rd
    by_cases z : len ≤ F + 2 * i + 1
    · simp only [if_pos z]
      refine ⟨_, g, A, ?_, Or.inl ⟨nI_pos' (by omega), h, J, rfl⟩, hP⟩
      by_cases y : F + 2 * i < len
      · rw [if_pos y] at t0
        have rem : nI (2 * i) - nI (2 * i) / (2 : Int32) * 2 = nI (2 * i % 2) := pk_rem (d := 2) (by omega) (by decide) (by decide)
        have t1 := test (2 * i + 1) v8 (by omega) (by omega)
        rw [if_neg (by omega)] at t1
        rw [t0, zb194_125, if_neg (by decide), zm_nx, zb194_132, rem, show 2 * i % 2 = 0 by omega, if_pos (by decide), zm_nx, zb194_190, zm_nx, nI_1, t1, zb194_125, if_pos (by decide), zm_nx, zb194_190, zm_nx, nI_1]
        exact out _ _ (by omega)
      · rw [if_neg y] at t0
        rw [t0, zb194_125, if_pos (by decide), zm_nx, zb194_190, zm_nx, nI_1]
        exact out _ _ (by omega)
    · simp only [if_neg z]
      rw [if_pos (by omega)] at t0
      have rem : nI (2 * i) - nI (2 * i) / (2 : Int32) * 2 = nI (2 * i % 2) := pk_rem (d := 2) (by omega) (by decide) (by decide)
      have rem1 : nI (2 * i + 1) - nI (2 * i + 1) / (2 : Int32) * 2 = nI ((2 * i + 1) % 2) := pk_rem (d := 2) (by omega) (by decide) (by decide)
      have t1 := test (2 * i + 1) v8 (by omega) (by omega)
      rw [if_pos (by omega)] at t1
      obtain ⟨h1, g1, b1, b2, b3, b4, b5⟩ := qm_roll (x := C (F + 2 * i)) (y := C (F + 2 * i + 1)) J.1 hP ho.1
      have J1 := zo_Jm J b2 (fun q q1 _ => b4 q q1) b5
      obtain ⟨r, er⟩ : ∃ r, r = (zp_roll (C (F + 2 * i)) (C (F + 2 * i + 1)) Q).1 := ⟨_, rfl⟩
      rw [← er] at b1
      have ix : ((40 : Int32) * nI k + nI F) + nI (2 * i + 1) = nI (40 * k + (F + 2 * i + 1)) := by
        rw [show (40 : Int32) * nI k = nI (40 * k) from pk_mul 40 k, nI_add, nI_add]
        congr 1
        omega
      have ix1 : nI (40 * k + (F + 2 * i + 1)) - (1 : Int32) = nI (40 * k + (F + 2 * i)) := nI_pred _
      have E : zm_den 3 194 55 [.ref 137, .int (nI k), .int l, .int (nI F), .int (nI n), .int 0, .int (nI i), .int (nI (2 * i)), v8] [] h = (if 0 ≤ r then zm_den 3 194 187 [.ref 137, .int (nI k), .int l, .int (nI F), .int (nI n), .int 0, .int (nI i), .int (nI (2 * i + 1)), .int (nI (40 * k + (F + 2 * i + 1)))] [] h1 else zm_den 3 194 174 [.ref 137, .int (nI k), .int l, .int (nI F), .int (nI n), .int 0, .int (nI i), .int (nI (2 * i + 1)), .int (nI (40 * k + (F + 2 * i + 1)))] [] h1) := by
        rw [t0, zb194_125, if_neg (by decide), zm_nx, zb194_132, rem, show 2 * i % 2 = 0 by omega, if_pos (by decide), zm_nx, zb194_190, zm_nx, nI_1, t1, zb194_125, if_neg (by decide), zm_nx, zb194_132, rem1, show (2 * i + 1) % 2 = 1 by omega, if_neg (by decide), zm_nx, zb194_140]
        simp only [J.1.1, zor24, c149, ix, ix1, zq_al_o (show 40 * k + (F + 2 * i) < 160 by omega) (show (160 : Nat) < 2 ^ 31 by decide), zq_al_o (show 40 * k + (F + 2 * i + 1) < 160 by omega) (show (160 : Nat) < 2 ^ 31 by decide), r3 _ (show F + 2 * i < 40 by omega), r3 _ (show F + 2 * i + 1 < 40 by omega), zq_rc_o, b1, zq_bi_o, zm_nx]
      have h931 : zs_P g1 93 P := zs_Pk h93 h0K.1 fun q q1 _ => b4 q (by omega)
      rw [E, ← er]
      by_cases y : 0 ≤ r
      · obtain ⟨h', g', A', d1, d2, d3⟩ := ih (i + 1) h1 g1 _ (.int (nI (40 * k + (F + 2 * i + 1)))) (by omega) J1 b3 (zp_roll_ok ho) (zp_ext_roll he) h931
        simp only [if_pos y]
        refine ⟨h', g', A', ?_, d2, d3⟩
        rw [zb194_187, zm_nx, zb194_190, zm_nx, nI_1, nI_1]
        exact d1
      · simp only [if_neg y]
        obtain ⟨h3, g3, c1, c2, c3, c4, c5⟩ := qm_copies (f := 93) (t := 0) (by omega) (by omega) (by omega) b2
        have c1' : zm_call 160 [.ref 137, .int (93 : Int32), .int (0 : Int32)] h1 = some (none, h3) := c1
        refine ⟨h3, g3, A, ?_, Or.inr ⟨trivial, zo_Jm J1 c2 (fun q q1 _ => c4 q (by omega)) c5⟩, zs_Pc h931 h0K.1 c3⟩
        rw [zb194_174]
        simp only [J1.1.1, zq_rc_o, c1', zq_bv_o]
end ZT76
