def zp_coup (c : Int32) : Nat → Nat → zp_T → Int32
  | 0, _, _ => -4
  | k + 1, i, P => if zp_reign (zp_pass P) = c then zp_coup c k (i + 1) (zp_pass P) else nI i
section ZCOUP
variable {Y : zy_T}
theorem qc_coup_l {F q R c : Int32} : ∀ (k i : Nat) (h : zm_H) (P : zp_T), i + k = 61 → P.2.2.2.2 + k < 100000 → zm_g h 0 = .inr (6, zk_c F q R) → zp_V h 11 P → ∃ h', zm_den 5 81 24 [.ref 0, .int c, .int (nI i)] [] h = some (some (.int (zp_coup c k i P)), h') ∧ (∃ P', zp_V h' 11 P') ∧ zm_Fr h h' 11 21 := by
  intro k
  induction k with
  | zero =>
    intro i h P hi hd k0 hV
    have : i = 61 := by omega
    subst this
    refine ⟨h, ?_, ⟨P, hV⟩, zFr_rf _ _ _⟩
    rw [zb81_24, if_pos (by decide), zm_nx, zb81_59]
    rfl
  | succ k ih =>
    intro i h P hi hd k0 hV
    obtain ⟨h1, e1, e2, e3⟩ := qv_pass hV (by omega)
    have k1 : zm_g h1 0 = .inr (6, zk_c F q R) := (e3.2.2 0 (by omega)).trans k0
    obtain ⟨ad1, Q1, -, -, y1, y2, y3, y4⟩ := zV_row hV
    obtain ⟨ad2, Q2, -, -, w1, w2, w3, w4⟩ := zV_row e2
    have hlt : ¬ (60 : Int32) < nI i := nI_nlt (a := 60) (b := i) (by omega) (by decide)
    by_cases e : zp_reign (zp_pass P) = c
    · obtain ⟨h', d1, d2, d3⟩ := ih (i + 1) h1 (zp_pass P) (by omega) (by show P.2.2.2.2 + 1 + k < _; omega) k1 e2
      refine ⟨h', ?_, d2, zFr_tr e3 d3⟩
      rw [zb81_24, if_neg hlt, zm_nx, zb81_30]
      simp only [k0, zkr1, y1, zq_rc_o, e1, zq_bv_o, k1, w1, zgr_1_0, w2, qv_reign e2, zq_bi_o, e, if_true, zm_nx, zb81_53, nI_1, zp_coup]
      exact d1
    · refine ⟨h1, ?_, ⟨_, e2⟩, e3⟩
      rw [zb81_24, if_neg hlt, zm_nx, zb81_30]
      simp only [k0, zkr1, y1, zq_rc_o, e1, zq_bv_o, k1, w1, zgr_1_0, w2, qv_reign e2, zq_bi_o, e, if_false, zm_nx, zb81_51, zp_coup]
theorem qm_coup_l {A : Nat → Int32} {c : Int32} : ∀ (k i : Nat) (h : zm_H) (g : Nat → Int32) (P : zp_T), i + k = 61 → P.2.2.2.2 + k < 100000 → zp_ok P → zo_M h 137 A g → zs_P g 124 P → ∃ h' g', zm_den 4 169 15 [.ref 137, .int c, .int (nI i)] [] h = some (some (.int (zp_coup c k i P)), h') ∧ zo_M h' 137 A g' ∧ (∀ q, (q < 124 ∨ 155 ≤ q) → g' q = g q) ∧ zm_Fr h h' 138 139 := by
  intro k
  induction k with
  | zero =>
    intro i h g P hi hd ho hM hP
    have : i = 61 := by omega
    subst this
    refine ⟨h, g, ?_, hM, fun _ _ => rfl, zFr_rf _ _ _⟩
    rw [zb169_15, if_pos (by decide), zm_nx, zb169_45]
    rfl
  | succ k ih =>
    intro i h g P hi hd ho hM hP
    obtain ⟨h1, g1, e1, e2, e3, e4, e5⟩ := qm_go hM hP (by omega) ho (by omega)
    have e1' : zm_call 141 [.ref 137, .int (124 : Int32)] h = some (none, h1) := e1
    have hr : zm_call 143 [.ref 137, .int (124 : Int32)] h1 = some (some (.int (zp_reign (zp_pass P))), h1) := qm_reign (p := 124) (zo_Ms e2) e3 (by omega) ho.1
    have hlt : ¬ (60 : Int32) < nI i := nI_nlt (a := 60) (b := i) (by omega) (by decide)
    by_cases e : zp_reign (zp_pass P) = c
    · obtain ⟨h', g', d1, d2, d3, d4⟩ := ih (i + 1) h1 g1 (zp_pass P) (by omega) (by show P.2.2.2.2 + 1 + k < _; omega) (zp_ok_pass ho) e2 e3
      refine ⟨h', g', ?_, d2, fun q hq => (d3 q hq).trans (e5 q (by omega)), zFr_tr e4 d4⟩
      rw [zb169_15, if_neg hlt, zm_nx, zb169_21]
      simp only [hM.1, zq_rc_o, e1', zq_bv_o, e2.1, hr, zq_bi_o, e, if_true, zm_nx, zb169_39, nI_1, zp_coup]
      exact d1
    · refine ⟨h1, g1, ?_, e2, fun q hq => e5 q (by omega), e4⟩
      rw [zb169_15, if_neg hlt, zm_nx, zb169_21]
      simp only [hM.1, zq_rc_o, e1', zq_bv_o, e2.1, hr, zq_bi_o, e, if_false, zm_nx, zb169_37, zp_coup]
end ZCOUP
