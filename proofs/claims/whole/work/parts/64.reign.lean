def zx_fr (u d : Nat) (w : Int32) : Int64 := if ¬ w = 0 then lN (d / Nat.gcd u d) else lN (u / Nat.gcd u d)
theorem zx_gcd (a b : Nat) : Nat.gcd b (a % b) = Nat.gcd a b := by
  rw [Nat.gcd_comm b (a % b), ← Nat.gcd_rec b a, Nat.gcd_comm]
theorem zx_half {b r : Nat} (h0 : 0 < r) (hr : r < b) : 2 * (b % r) < b := by
  have h1 := Nat.div_add_mod b r
  have h2 : 0 < b / r := Nat.div_pos (by omega) h0
  have h3 : b % r < r := Nat.mod_lt _ h0
  have h4 : r * 1 ≤ r * (b / r) := Nat.mul_le_mul_left r h2
  omega
section ZT64
variable {h : zm_H} {Y : zy_T}
theorem zx_l0 {b : Nat} (hb : b < 2 ^ 62) : lN b = 0 ↔ b = 0 := pk_lEQ (b := 0) (by omega) (by decide)
theorem zx_c0 {b : Nat} (hb : b < 2 ^ 62) : lg_cmp (lN b) (0 : Int64) = 0 ↔ b = 0 := (lg_cmp_eq _ _).trans (zx_l0 hb)
theorem qm_low_l {u d : Nat} {w : Int32} (hu : u < 2 ^ 62) (hd : d < 2 ^ 62) (h0 : 0 < d) : ∀ (n a b : Nat) (v1 v3 v6 v8 v9 v10 : Value), b < n → a < 2 ^ 62 → b < 2 ^ 62 → Nat.gcd a b = Nat.gcd u d → zm_den 1 166 6 [.long (lN u), v1, .long (lN d), v3, .int w, .long (lN a), v6, .long (lN b), v8, v9, v10] [] h = some (some (.long (zx_fr u d w)), h) := by
  intro n
  induction n with
  | zero => intro a b v1 v3 v6 v8 v9 v10 hb; exact absurd hb (by omega)
  | succ n ih =>
    intro a b v1 v3 v6 v8 v9 v10 hb ha2 hb2 hg
    rw [zb166_6]
    by_cases z : b = 0
    · have ea : a = Nat.gcd u d := by rw [← hg, z, Nat.gcd_zero_right]
      have g0 : 0 < Nat.gcd u d := Nat.gcd_pos_of_pos_right _ h0
      have na : ¬ lN a = 0 := fun q => by have := (zx_l0 ha2).mp q; omega
      have gb : Nat.gcd u d < 2 ^ 63 := by omega
      rw [if_pos ((zx_c0 hb2).mpr z), zm_nx, zb166_31]
      unfold zx_fr
      by_cases y : w = 0
      · rw [if_neg (not_not_intro y), if_neg (not_not_intro y), zm_nx, zb166_36, zm_nx, zb166_41, if_neg na, ea, pk_lDiv (by omega) g0 gb]
      · rw [if_pos y, if_pos y, zm_nx, zb166_40, zm_nx, zb166_41, if_neg na, ea, pk_lDiv (by omega) g0 gb]
    · have nb : ¬ lN b = 0 := fun q => z ((zx_l0 hb2).mp q)
      have lt : a % b < b := Nat.mod_lt _ (by omega)
      rw [if_neg (fun q => z ((zx_c0 hb2).mp q)), zm_nx, zb166_13, if_neg nb, zm_nx, pk_lRem (by omega) (by omega) (by omega)]
      exact ih b (a % b) _ _ _ _ _ _ (by omega) hb2 (by omega) (by rw [zx_gcd]; exact hg)
theorem qm_low {u d : Nat} {w : Int32} (hu : u < 2 ^ 62) (hd : d < 2 ^ 62) (h0 : 0 < d) : zm_call 166 [.long (lN u), .long (lN d), .int w] h = some (some (.long (zx_fr u d w)), h) := by
  rw [zc166, zm_nx, zb166_0, zm_nx]
  exact qm_low_l hu hd h0 (d + 1) u d _ _ _ _ _ _ (by omega) hu hd rfl
theorem qc_frac_e {u d : Nat} {w x9 : Int32} (hu : u < 2 ^ 62) (hd : d < 2 ^ 62) (h0 : 0 < d) {a b : Nat} {v1 v3 v6 v8 v10 v11 : Value} (ha2 : a < 2 ^ 62) (hg : a = Nat.gcd u d) : zm_den 1 109 45 [.long (lN u), v1, .long (lN d), v3, .int w, .long (lN a), v6, .long (lN b), v8, .int x9, v10, v11] [] h = some (some (.long (zx_fr u d w)), h) := by
  have g0 : 0 < Nat.gcd u d := Nat.gcd_pos_of_pos_right _ h0
  have na : ¬ lN a = 0 := fun q => by have := (zx_l0 ha2).mp q; omega
  have nc : ¬ lg_cmp (lN a) (0 : Int64) = 0 := fun q => by have := (zx_c0 ha2).mp q; omega
  rw [zb109_45, if_pos nc, zm_nx, zb109_56]
  unfold zx_fr
  have gb : Nat.gcd u d < 2 ^ 63 := by omega
  by_cases y : w = 0
  · rw [if_neg (not_not_intro y), if_neg (not_not_intro y), zm_nx, zb109_61, if_neg na, zm_nx, zb109_72, hg, pk_lDiv (by omega) g0 gb]
  · rw [if_pos y, if_pos y, zm_nx, zb109_68, if_neg na, zm_nx, zb109_72, hg, pk_lDiv (by omega) g0 gb]
theorem qc_frac_l {u d : Nat} {w : Int32} (hu : u < 2 ^ 62) (hd : d < 2 ^ 62) (h0 : 0 < d) : ∀ (k a b c : Nat) (v1 v3 v6 v8 v10 v11 : Value), b < 2 ^ k → c + 2 * k ≤ 198 → a < 2 ^ 62 → b < 2 ^ 62 → Nat.gcd a b = Nat.gcd u d → zm_den 1 109 9 [.long (lN u), v1, .long (lN d), v3, .int w, .long (lN a), v6, .long (lN b), v8, .int (nI c), v10, v11] [] h = some (some (.long (zx_fr u d w)), h) := by
  have zero : ∀ (a c : Nat) (v1 v3 v6 v8 v10 v11 : Value), c < 200 → a < 2 ^ 62 → Nat.gcd a 0 = Nat.gcd u d → zm_den 1 109 9 [.long (lN u), v1, .long (lN d), v3, .int w, .long (lN a), v6, .long (lN 0), v8, .int (nI c), v10, v11] [] h = some (some (.long (zx_fr u d w)), h) := by
    intro a c v1 v3 v6 v8 v10 v11 hc ha hg
    have hlt : ¬ (200 : Int32) ≤ nI c := nI_ge (a := c) (b := 200) hc (by decide)
    rw [zb109_9, if_neg hlt, zm_nx, zb109_17, if_pos ((zx_c0 (by decide)).mpr rfl), zm_nx]
    exact qc_frac_e hu hd h0 ha (by rw [← hg, Nat.gcd_zero_right])
  have step : ∀ (a b c : Nat) (v1 v3 v6 v8 v10 v11 : Value), c < 200 → 0 < b → a < 2 ^ 62 → b < 2 ^ 62 → zm_den 1 109 9 [.long (lN u), v1, .long (lN d), v3, .int w, .long (lN a), v6, .long (lN b), v8, .int (nI c), v10, v11] [] h = zm_den 1 109 9 [.long (lN u), v1, .long (lN d), v3, .int w, .long (lN b), .null, .long (lN (a % b)), .null, .int (nI (c + 1)), .long (lN (a % b)), .null] [] h := by
    intro a b c v1 v3 v6 v8 v10 v11 hc hb ha hb2
    have hlt : ¬ (200 : Int32) ≤ nI c := nI_ge (a := c) (b := 200) hc (by decide)
    have nb : ¬ lN b = 0 := fun q => by have := (zx_l0 hb2).mp q; omega
    rw [zb109_9, if_neg hlt, zm_nx, zb109_17, if_neg (fun q => by have := (zx_c0 hb2).mp q; omega), zm_nx, zb109_24, if_neg nb, zm_nx, nI_1, pk_lRem (by omega) hb (by omega)]
  intro k
  induction k with
  | zero =>
    intro a b c v1 v3 v6 v8 v10 v11 hb hc ha hb2 hg
    have : b = 0 := by
      have : (2 : Nat) ^ 0 = 1 := rfl
      omega
    subst this
    exact zero a c _ _ _ _ _ _ (by omega) ha hg
  | succ k ih =>
    intro a b c v1 v3 v6 v8 v10 v11 hb hc ha hb2 hg
    by_cases z : b = 0
    · subst z
      exact zero a c _ _ _ _ _ _ (by omega) ha hg
    · have lt : a % b < b := Nat.mod_lt _ (by omega)
      rw [step a b c _ _ _ _ _ _ (by omega) (by omega) ha hb2]
      by_cases y : a % b = 0
      · rw [y]
        exact zero b (c + 1) _ _ _ _ _ _ (by omega) hb2 (by rw [← hg, ← zx_gcd a b, y])
      · rw [step b (a % b) (c + 1) _ _ _ _ _ _ (by omega) (by omega) hb2 (by omega)]
        have hh := zx_half (b := b) (r := a % b) (by omega) lt
        have pw : (2 : Nat) ^ (k + 1) = 2 * 2 ^ k := by rw [Nat.pow_succ, Nat.mul_comm]
        exact ih (a % b) (b % (a % b)) (c + 1 + 1) _ _ _ _ _ _ (by omega) (by omega) (by omega) (by omega) (by rw [zx_gcd, zx_gcd]; exact hg)
theorem qc_frac {u d : Nat} {w : Int32} (hu : u < 2 ^ 62) (hd : d < 2 ^ 62) (h0 : 0 < d) : zm_call 109 [.long (lN u), .long (lN d), .int w] h = some (some (.long (zx_fr u d w)), h) := by
  rw [zc109, zm_nx, zb109_0, zm_nx]
  exact qc_frac_l hu hd h0 62 d u 0 _ _ _ _ _ _ hu (by decide) hd hu (Nat.gcd_comm d u)
theorem zp_ruled_n {i : Int32} : ∀ (k : Nat) (P : zp_T) (a : Nat), ∃ r, r ≤ a + k ∧ zp_ruled i k P (nI a) = nI r
  | 0, _, a => ⟨a, by omega, rfl⟩
  | k + 1, P, a => by
    unfold zp_ruled
    by_cases z : zp_reign P = i
    · rw [if_neg (not_not_intro z), nI_1]
      obtain ⟨r, h1, h2⟩ := zp_ruled_n k (zp_pass P) (a + 1)
      exact ⟨r, by omega, h2⟩
    · rw [if_pos z]
      obtain ⟨r, h1, h2⟩ := zp_ruled_n k (zp_pass P) a
      exact ⟨r, by omega, h2⟩
theorem zt_reign (x y z : Int32) (hK : zk_K h Y) (hO : zo_K h Y) : zt_L 79 167 [.int x, .int y, .int z] h := by
  have k0 := hK.1
  obtain ⟨kV, kO, kd⟩ := hK.2.1
  obtain ⟨ad, Q, -, -, v1, v2, v3, v4⟩ := zV_row kV
  obtain ⟨A, g, a1, a2, a3, -⟩ := id hO
  have h10 : ¬ (1 : Int32) = 0 := by decide
  have c0 := qc_isfig (x := x) k0 kV
  have m0 := qm_isfig (x := x) a1 a2 v3
  have mN := fun h : zm_H => qm_in (h := h) y 1 60 (1 : Int64) (60 : Int64) (by decide) (by decide)
  have c1 := qc_within (h := h) z 1
  have m1 := fun h : zm_H => qm_in (h := h) z 0 1 (0 : Int64) (1 : Int64) (by decide) (by decide)
  rcases zw_fig_c x v3 with e | ⟨i, hi, ex, e⟩
  · refine zt_roL (r := -1) hK hO ?_ ?_
    · simp only [zc79, zB79, k0, c0, e, zm_nx, zq_rc_o, zq_bi_o, zq_bl_o, zq_bv_o, not_true_eq_false, not_false_eq_true, if_true, if_false, h10, ite_self]
    · simp only [zc167, zB167, a1.1, m0, e, zm_nx, zq_rc_o, zq_bi_o, zq_bl_o, zq_bv_o, not_true_eq_false, not_false_eq_true, if_true, if_false, h10, ite_self]
  · subst ex
    rw [e] at c0 m0
    rcases zw_1_c y (u := 60) (by decide) with ⟨e1, e2⟩ | ⟨e0, e1, e2⟩ | ⟨N, h1N, hN, ex, e0, e1, e2⟩
    · have e' : zw_in y 1 60 = 0 := e2
      refine zt_roL (r := -1) hK hO ?_ ?_
      · simp only [zc79, zB79, k0, c0, e1, zm_nx, zq_rc_o, zq_bi_o, zq_bl_o, zq_bv_o, not_true_eq_false, not_false_eq_true, if_true, if_false, h10, ite_self]
      · simp only [zc167, zB167, a1.1, m0, mN, e', zm_nx, zq_rc_o, zq_bi_o, zq_bl_o, zq_bv_o, not_true_eq_false, not_false_eq_true, if_true, if_false, h10, ite_self]
    · have e' : zw_in y 1 60 = 0 := e2
      have e1' : (60 : Int32) < y := e1
      refine zt_roL (r := -1) hK hO ?_ ?_
      · simp only [zc79, zB79, k0, c0, e0, e1', zm_nx, zq_rc_o, zq_bi_o, zq_bl_o, zq_bv_o, not_true_eq_false, not_false_eq_true, if_true, if_false, h10, ite_self]
      · simp only [zc167, zB167, a1.1, m0, mN, e', zm_nx, zq_rc_o, zq_bi_o, zq_bl_o, zq_bv_o, not_true_eq_false, not_false_eq_true, if_true, if_false, h10, ite_self]
    · have e' : zw_in y 1 60 = 1 := e2
      have e1' : ¬ (60 : Int32) < y := e1
      rcases zw_in_c z (u := 1) (by decide) with f | ⟨w, hw, ez, f⟩
      · have f' : zw_in z 0 1 = 0 := f
        refine zt_roL (r := -1) hK hO ?_ ?_
        · simp only [zc79, zB79, k0, c0, e0, e1', c1, f', zm_nx, zq_rc_o, zq_bi_o, zq_bl_o, zq_bv_o, not_true_eq_false, not_false_eq_true, if_true, if_false, h10, ite_self]
        · simp only [zc167, zB167, a1.1, m0, mN, e', m1, f', zm_nx, zq_rc_o, zq_bi_o, zq_bl_o, zq_bv_o, not_true_eq_false, not_false_eq_true, if_true, if_false, h10, ite_self]
      · have f' : zw_in z 0 1 = 1 := f
        obtain ⟨h1, t1, t2, t3, t4⟩ := zk_trial hK
        obtain ⟨ad0, Q0, -, -, u1, u2, u3, u4⟩ := zV_row hK.2.2.1.1.choose_spec
        obtain ⟨ad1, Q1, -, -, y1, y2, y3, y4⟩ := zV_row t2
        obtain ⟨h2, r1, r2, r3⟩ := qv_ruled (i := nI i) (N := N) t2 (by omega)
        have K2 := zk_tr t3 r2 r3
        obtain ⟨R, hR, eR⟩ := zp_ruled_n (i := nI i) N Y.1 0
        have eR' : zp_ruled (nI i) N Y.1 0 = nI R := eR
        rw [eR', ← ex] at r1
        have lR : (nI R).toInt64 = lN R := nI_l (by omega)
        have lN' : y.toInt64 = lN N := by rw [ex]; exact nI_l (by omega)
        have fr := fun h : zm_H => qc_frac (h := h) (u := R) (d := N) (w := z) (by omega) (by omega) (by omega)
        have F3 : zm_Fr h h2 11 21 := zFr_tr t4 r3
        refine zt_mkL hO (r := zx_fr R N z) ?_ K2 (zFr_mn F3 (by omega) (by omega)) fun O1 => ?_
        · rw [zc79, zm_nx, zb79_0]
          simp only [k0, zq_rc_o, c0, zq_bi_o, h10, if_false, zm_nx]
          rw [zb79_8, if_neg e0, zm_nx, zb79_13, if_neg e1', zm_nx, zb79_19]
          simp only [c1, f', zq_bi_o, h10, not_false_eq_true, if_true, zm_nx]
          rw [zb79_31]
          simp only [k0, zkr1, zkr0, u1, zq_rc_o, t1, zq_bv_o, t3.1, y1, r1, zq_bi_o, lR, lN', fr, zq_bl_o]
        obtain ⟨A, g, J, a2⟩ := zo_J0 O1
        have m0 := qm_isfig (x := nI i) J.1 a2 v3
        rw [e] at m0
        obtain ⟨h4, A4, g4, r, d1, d2, d3, -, -, -, d5, d6, d4⟩ := zo_Jd (f := 0) (N := N) J (Or.inl (by omega)) a2 kO (by omega)
        have d1' : zm_call 161 [.ref 137, .int (0 : Int32), .int y] h2 = some (none, h4) := by rw [ex]; exact d1
        have d5' : zm_g h4 (137 + 6) = .inl (0, 5, .inl r) := d5
        have d6' := d6 i (by omega)
        rw [eR'] at d6'
        have fr2 := fun h : zm_H => qm_low (h := h) (u := R) (d := N) (w := z) (by omega) (by omega) (by omega)
        have R := zo_Je (P := Y.1) hK.2.2.2.2.2.1 O1 J.1 d2 (zs_Pk a2 v3 fun q _ _ => d4 q (by omega))
        refine ⟨h4, ?_, R.1, R.2⟩
        rw [zc167, zm_nx, zb167_0]
        simp only [J.1.1, zq_rc_o, m0, zq_bi_o, h10, if_false, zm_nx]
        rw [zb167_8]
        simp only [mN, e', zq_bi_o, h10, if_false, zm_nx]
        rw [zb167_20]
        simp only [m1, f', zq_bi_o, h10, not_false_eq_true, if_true, zm_nx]
        rw [zb167_34]
        simp only [J.1.1, zq_rc_o, d1', zq_bv_o, d2.1.1, zor17, d5', zq_al_o (show i < 5 by omega) (show (5 : Nat) < 2 ^ 31 by decide), d6', lR, lN', fr2, zq_bl_o]
end ZT64
