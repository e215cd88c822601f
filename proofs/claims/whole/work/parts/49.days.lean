def zc_pop (b : Nat) : Nat := b % 2 + b / 2 % 2 + b / 4 % 2 + b / 8 % 2 + b / 16 % 2
theorem zc_cnt_n : ∀ b, b < 32 → zc_cnt (nI b) = nI (zc_pop b) := by
  intro b hb
  unfold zc_cnt
  rw [zb0_0]
  revert b
  decide +kernel
def zo_bo : Nat → Int32 → Int32 → Option Int32
  | 0, _, _ => none
  | k + 1, n, l => if l ≤ 0 then some n else zo_bo k (n + (l &&& 1)) (l >>> ((1 : Int32) &&& 31))
theorem zo_bo_n : ∀ b, b < 32 → zo_bo 8 0 (nI b) = some (nI (zc_pop b)) := by decide +kernel
theorem zr_bit1 : ∀ b, b < 32 → ∀ i, i < 5 → (nI b ||| ((1 : Int32) <<< (nI i &&& 31))) = nI (b ||| 2 ^ i) ∧ b ||| 2 ^ i < 32 := by decide +kernel
theorem zr_bitf_n (v : Nat → zf_T) : ∀ k i b, i + k ≤ 5 → b < 32 → ∃ c, c < 32 ∧ zr_bitf v k i (nI b) = nI c
  | 0, _, b, _, hb => ⟨b, hb, rfl⟩
  | k + 1, i, b, hi, hb => by
    unfold zr_bitf
    by_cases z : (v i).2.1 ≤ 0
    · rw [if_pos z]
      exact zr_bitf_n v k (i + 1) b (by omega) hb
    · rw [if_neg z, (zr_bit1 b hb i (by omega)).1]
      exact zr_bitf_n v k (i + 1) _ (by omega) (zr_bit1 b hb i (by omega)).2
theorem zr_bits_n {n : Nat} (v : Nat → zf_T) (hn : n ≤ 5) : ∃ c, c < 32 ∧ zr_bits n v = nI c := zr_bitf_n v n 0 0 (by omega) (by decide)
section ZT49
variable {h : zm_H} {Y : zy_T} {P : zp_T}
theorem qm_bo (x0 : Int32) : ∀ (k : Nat) (n l r : Int32), zo_bo k n l = some r → zm_den 1 146 4 [.int x0, .int n, .int l] [] h = some (some (.int r), h) := by
  intro k
  induction k with
  | zero => intro n l r e; cases e
  | succ k ih =>
    intro n l r e
    unfold zo_bo at e
    rw [zb146_4]
    by_cases z : l ≤ 0
    · rw [if_pos z] at e ⊢
      rw [zm_nx, zb146_21, Option.some.inj e]
    · rw [if_neg z] at e ⊢
      rw [zm_nx, zb146_8, zm_nx]
      exact ih _ _ _ e
theorem qm_bitsN {b : Nat} (hb : b < 32) : zm_call 146 [.int (nI b)] h = some (some (.int (zc_cnt (nI b))), h) := by
  rw [zc146, zm_nx, zb146_0, zm_nx, zc_cnt_n b hb]
  exact qm_bo _ 8 _ _ _ (zo_bo_n b hb)
theorem qm_bitsOf {n : Nat} {v : Nat → zf_T} (hn : n ≤ 5) : zm_call 146 [.int (zr_bits n v)] h = some (some (.int (zc_cnt (zr_bits n v))), h) := by
  obtain ⟨c, hc, e⟩ := zr_bits_n v hn
  rw [e]
  exact qm_bitsN hc
theorem qm_days_l {A : Nat → Int32} {N : Nat} (hN : N < 100000) : ∀ (k i : Nat) (h : zm_H) (g : Nat → Int32) (P : zp_T), i + k = N → P.2.2.2.2 + k < 100000 → zp_ok P → zo_M h 137 A g → zs_P g 0 P → ∃ h' g', zm_den 4 159 34 [.ref 137, .int (nI N), .int (nI i)] [] h = some (some (.int (zc_cnt (zr_bits (zp_run k P).1 (zp_run k P).2.1))), h') ∧ zo_M h' 137 A g' ∧ zs_P g' 0 (zp_run k P) ∧ (∀ q, 31 ≤ q → g' q = g q) ∧ zm_Fr h h' 138 139 := by
  intro k
  induction k with
  | zero =>
    intro i h g P hi hd ho hM hP
    refine ⟨h, g, ?_, hM, hP, fun _ _ => rfl, zFr_rf _ _ _⟩
    have q : zm_call 142 [.ref 137, .int (0 : Int32)] h = _ := qm_bits (p := 0) (zo_Ms hM) hP (by omega) ho.1
    rw [zb159_34]
    simp only [nI_leB hN (show i < 100000 by omega), show N ≤ i by omega, if_true, zm_nx, zb159_50, hM.1, zq_rc_o, q, zq_bi_o, qm_bitsOf ho.1]
    rfl
  | succ k ih =>
    intro i h g P hi hd ho hM hP
    obtain ⟨h1, g1, e1, e2, e3, e4, e5⟩ := qm_go hM hP (by omega) ho (by omega)
    have e1' : zm_call 141 [.ref 137, .int (0 : Int32)] h = some (none, h1) := e1
    obtain ⟨h', g', d1, d2, d3, d4, d5⟩ := ih (i + 1) h1 g1 (zp_pass P) (by omega) (by show P.2.2.2.2 + 1 + k < _; omega) (zp_ok_pass ho) e2 e3
    refine ⟨h', g', ?_, d2, d3, fun q hq => (d4 q hq).trans (e5 q (by omega)), zFr_tr e4 d5⟩
    rw [zb159_34]
    simp only [nI_leB hN (show i < 100000 by omega), show ¬ N ≤ i by omega, if_false, zm_nx, zb159_39, hM.1, zq_rc_o, e1', zq_bv_o, nI_1]
    exact d1
theorem zp_run_d : ∀ (k : Nat) (P : zp_T), (zp_run k P).2.2.2.2 = P.2.2.2.2 + k
  | 0, _ => rfl
  | k + 1, P => by
    show (zp_run k (zp_pass P)).2.2.2.2 = _
    rw [zp_run_d k (zp_pass P)]
    show P.2.2.2.2 + 1 + k = _
    omega
theorem zt_days (x : Int32) (hK : zk_K h Y) (hO : zo_K h Y) : zt_R 75 159 [.int x] h := by
  have k0 := hK.1
  obtain ⟨kV, kO, kd⟩ := hK.2.1
  obtain ⟨ad, Q, -, -, v1, v2, v3, v4⟩ := zV_row kV
  obtain ⟨A, g, a1, a2, a3, -⟩ := id hO
  have h10 : ¬ (1 : Int32) = 0 := by decide
  have c0 := qc_within (h := h) x 30
  have m0 := fun h : zm_H => qm_in (h := h) x 0 30 (0 : Int64) (30 : Int64) (by decide) (by decide)
  have e30 : ∀ f : Int32 → zm_O, zq_al (.inl (0, 186, .inl g)) 0 (30 : Int32) f = f (nI Y.1.2.2.2.2) := fun f => zy_al (j := 30) rfl (by decide) (by decide) a2.2.2.2
  rcases zw_in_c x (u := 30) (by decide) with e | ⟨N, hN, ex, e⟩
  · have e' : zw_in x 0 30 = 0 := e
    refine zt_ro (r := -1) hK hO ?_ ?_
    · simp only [zc75, zB75, c0, e', zm_nx, zq_rc_o, zq_bi_o, zq_bl_o, zq_bv_o, not_true_eq_false, not_false_eq_true, if_true, if_false, h10, ite_self]
    · simp only [zc159, zB159, m0, e', zm_nx, zq_rc_o, zq_bi_o, zq_bl_o, zq_bv_o, not_true_eq_false, not_false_eq_true, if_true, if_false, h10, ite_self]
  · subst ex
    have e' : zw_in (nI N) 0 30 = 1 := e
    have t1 : (nI (Y.1.2.2.2.2 + N) < (1000 : Int32)) = (Y.1.2.2.2.2 + N < 1000) := propext (nI_ltI (b := 1000) (by omega) (by decide))
    have t2 : (nI (Y.1.2.2.2.2 + N) ≤ (999 : Int32)) = (Y.1.2.2.2.2 + N ≤ 999) := propext (nI_leI (b := 999) (by omega) (by decide))
    by_cases z : Y.1.2.2.2.2 + N < 1000
    · obtain ⟨h1, s1, s2, s3⟩ := qv_run (N := N) kV (by omega)
      obtain ⟨ad2, Q2, -, -, w1, w2, w3, w4⟩ := zV_row s2
      have k1 : zm_g h1 0 = _ := (s3.2.2 0 (by omega)).trans k0
      refine zt_now hK hO (r := zc_cnt (zr_bits (zp_run N Y.1).1 (zp_run N Y.1).2.1)) ?_ s2 (zp_ok_run N kO) (by rw [zp_run_d]; exact z) s3 fun A g a1 a2 => ?_
      · simp only [zc75, zB75, c0, e', k0, zkr0, v1, zgi_1_3, nI_add, t1, z, s1, k1, w1, zgr_1_0, w2, qv_num s2, zm_nx, zq_rc_o, zq_bi_o, zq_bl_o, zq_bv_o, not_true_eq_false, not_false_eq_true, if_true, if_false, h10, ite_self]
      have e30 : ∀ f : Int32 → zm_O, zq_al (.inl (0, 186, .inl g)) 0 (30 : Int32) f = f (nI Y.1.2.2.2.2) := fun f => zy_al (j := 30) rfl (by decide) (by decide) a2.2.2.2
      obtain ⟨h2, g2, d1, d2, d3, d4, d5⟩ := qm_days_l (A := A) (N := N) (by omega) N 0 h1 g Y.1 (by omega) (by omega) kO a1 a2
      have d1' : zm_den 4 159 34 [.ref 137, .int (nI N), .int (0 : Int32)] [] h1 = _ := d1
      refine ⟨h2, g2, ?_, d2, d3, fun q q1 _ => d4 q q1, d5⟩
      simp only [zc159, zB159, m0, e', a1.1, a1.2, zor0, e30, nI_add, t2, show Y.1.2.2.2.2 + N ≤ 999 by omega, d1', zm_nx, zq_rc_o, zq_bi_o, zq_bl_o, zq_bv_o, not_true_eq_false, not_false_eq_true, if_true, if_false, h10, ite_self]
    · refine zt_ro (r := -3) hK hO ?_ ?_
      · simp only [zc75, zB75, c0, e', k0, zkr0, v1, zgi_1_3, nI_add, t1, z, zm_nx, zq_rc_o, zq_bi_o, zq_bl_o, zq_bv_o, not_true_eq_false, not_false_eq_true, if_true, if_false, h10, ite_self]
      · simp only [zc159, zB159, m0, e', a1.1, a1.2, zor0, e30, nI_add, t2, show ¬ Y.1.2.2.2.2 + N ≤ 999 by omega, zm_nx, zq_rc_o, zq_bi_o, zq_bl_o, zq_bv_o, not_true_eq_false, not_false_eq_true, if_true, if_false, h10, ite_self]
end ZT49
