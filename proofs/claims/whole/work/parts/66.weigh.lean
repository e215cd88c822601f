section ZT66
variable {h : zm_H} {Y : zy_T} {P Q : zp_T}
theorem qc_salted {d : Nat} {s : Bool} {x2 : Int32} (hs : s = true ↔ ¬ x2 = 0) (hd : d < 8) (hK : zk_K h Y) (hV : zr_V h (23 + 7 * d) Q) (ho : zp_ok Q) (q1 : Q.2.2.1 = Y.1.2.2.1) (q2 : Q.2.2.2.1 = Y.1.2.2.2.1) (q3 : Q.2.2.2.2 = Y.1.2.2.2.2 + d) : ∃ h', zm_call 115 [.ref 22, .ref 1, .int (nI d), .int x2] h = some (none, h') ∧ zr_V h' (23 + 7 * (d + 1)) (zp_st s Q) ∧ zk_K h' Y ∧ zm_Fr h h' (23 + 7 * (d + 1)) (23 + 7 * (d + 1) + 7) := by
  have h10 : ¬ (1 : Int32) = 0 := by decide
  have h9 : (9 : Nat) < 2 ^ 31 := by decide
  have k0 := hK.1
  obtain ⟨kV, kO, kd⟩ := hK.2.1
  obtain ⟨gs, c1, c2⟩ := hK.2.2.1.2.2.1
  have rows := hK.2.2.1.2.2.2.1
  obtain ⟨h1, e1, e2, e3⟩ := qr_copy (r := 23 + 7 * (d + 1)) (q := 23 + 7 * d) (by omega) (rows (d + 1) (by omega)) hV
  have K1 := zk_rw hK (show d + 1 < 9 by omega) e2 e3
  obtain ⟨ad, n, v, hW⟩ := rows (d + 1) (by omega)
  have rg := qr_reign e2
  have E1 : zm_call 115 [.ref 22, .ref 1, .int (nI d), .int x2] h = (if x2 = 0 then zm_den 4 115 44 [.ref 22, .ref 1, .int (nI d), .int x2, .ref (23 + 7 * (d + 1)), .int (zp_reign Q), .null] [] h1 else zm_den 4 115 26 [.ref 22, .ref 1, .int (nI d), .int x2, .ref (23 + 7 * (d + 1)), .int (zp_reign Q), .null] [] h1) := by
    rw [zc115, zm_nx, zb115_0]
    simp only [c1, nI_1, zq_ql_o (show d + 1 < 9 by omega) h9 (c2 _ (show d + 1 < 9 by omega)), zq_ql_o (show d < 9 by omega) h9 (c2 _ (show d < 9 by omega)), hW.2.1, zq_rc_o, e1, zq_bv_o, zR_cell e2, rg, zq_bi_o, zm_nx]
  have E2 : ∃ h2, zm_call 115 [.ref 22, .ref 1, .int (nI d), .int x2] h = zm_den 4 115 44 [.ref 22, .ref 1, .int (nI d), .int x2, .ref (23 + 7 * (d + 1)), .int (zp_reign Q), .null] [] h2 ∧ zr_V h2 (23 + 7 * (d + 1)) (zp_hv s Q) ∧ zk_K h2 Y ∧ zm_Fr h h2 (23 + 7 * (d + 1)) (23 + 7 * (d + 1) + 7) := by
    by_cases z : x2 = 0
    · have : s = false := by
        cases s with
        | false => rfl
        | true => exact absurd z (hs.mp rfl)
      subst this
      exact ⟨h1, by rw [E1, if_pos z], e2, K1, e3⟩
    · have : s = true := hs.mpr z
      subst this
      rw [if_neg z, zb115_26] at E1
      rcases zr_reign_spec Q.1 Q.2.1 with e | ⟨j, hj, e⟩
      · have e' : zp_reign Q = -4 := e
        refine ⟨h1, by rw [E1, if_pos e']; rfl, ?_, K1, e3⟩
        rw [zp_hv_n e']
        exact e2
      · have e' : zp_reign Q = nI j := e
        have j5 : j < 5 := Nat.lt_of_lt_of_le hj ho.1
        obtain ⟨ga, a, f1, f2, f3, f4, f5, f6⟩ := qr_fig e2 hj
        have hv := qc_halve f3
        have V2 := f6 ((Q.2.1 j).1, (Q.2.1 j).2.1 / 2, (Q.2.1 j).2.2)
        rw [← zp_hv_r hj ho.1 e'] at V2
        have F2 : zm_Fr h1 (zm_s h1 a (zf_c ((Q.2.1 j).1, (Q.2.1 j).2.1 / 2, (Q.2.1 j).2.2))) (23 + 7 * (d + 1)) (23 + 7 * (d + 1) + 7) := zFr_s (by omega) (by omega)
        refine ⟨_, ?_, V2, zk_rw K1 (show d + 1 < 9 by omega) V2 F2, zFr_tr e3 F2⟩
        rw [E1, if_neg (by rw [e']; exact nI_ne4 (by omega)), zm_nx, zb115_33]
        simp only [zR_cell e2, zgr_2_0, f1, e', zq_ql_o j5 (show (5 : Nat) < 2 ^ 31 by decide) f2, f3, zrf_c, hv, zq_bv_o, zm_nx]
  obtain ⟨h2, E2, V2, K2, F2⟩ := E2
  obtain ⟨kV2, -, -⟩ := K2.2.1
  obtain ⟨ad2, Q2, -, -, v1, v2, v3, v4⟩ := zV_row kV2
  obtain ⟨⟨g1, b1, b2⟩, ⟨g2, b3, b4⟩⟩ := zV_arr kV2
  have hm : (Y.1.2.2.2.2 + d) % 7 < 7 := Nat.mod_lt _ (by decide)
  have er : (nI Y.1.2.2.2.2 + nI d) - (nI Y.1.2.2.2.2 + nI d) / 7 * 7 = nI ((Y.1.2.2.2.2 + d) % 7) := by
    rw [nI_add]
    exact zm_rem7 _ (by omega)
  obtain ⟨h3, p1, p2, p3⟩ := qr_pass (w := Y.1.2.2.1 ((Y.1.2.2.2.2 + d) % 7)) (d := Y.1.2.2.2.1 ((Y.1.2.2.2.2 + d) % 7)) V2
  have hv := zp_hv_c (P := Q) (s := s)
  have V3 : zr_V h3 (23 + 7 * (d + 1)) (zp_st s Q) := by
    have eq : (zp_st s Q).2.1 = zr_pass (Y.1.2.2.1 ((Y.1.2.2.2.2 + d) % 7)) (Y.1.2.2.2.1 ((Y.1.2.2.2.2 + d) % 7)) (zp_hv s Q).1 (zp_hv s Q).2.1 := by
      show zr_pass ((zp_hv s Q).2.2.1 ((zp_hv s Q).2.2.2.2 % 7)) ((zp_hv s Q).2.2.2.1 ((zp_hv s Q).2.2.2.2 % 7)) (zp_hv s Q).1 (zp_hv s Q).2.1 = _
      rw [hv.2, q1, q2, q3]
    obtain ⟨ad, v, w1, w2⟩ := p2
    exact ⟨ad, v, w1, fun i hi => by rw [eq]; exact w2 i hi⟩
  refine ⟨h3, ?_, V3, zk_rw K2 (show d + 1 < 9 by omega) V3 p3, zFr_tr F2 p3⟩
  rw [E2, zb115_44]
  simp only [v1, zgi_1_3, zgr_1_1, zgr_1_2, er]
  rw [b1, zq_al_o hm (by decide), b3, zq_al_o hm (by decide), b2 _ hm, b4 _ hm, zR_cell V2, zq_rc_o, p1, zq_bv_o]
theorem qc_weigh {v n : Nat} {x4 : Int32} (hv : v ≤ 10) (hn : n ≤ 8) : ∀ (k d : Nat) (h : zm_H) (Q : zp_T), d + k = n → zp_ok Q → Q.2.2.1 = Y.1.2.2.1 → Q.2.2.2.1 = Y.1.2.2.2.1 → Q.2.2.2.2 = Y.1.2.2.2.2 + d → zk_K h Y → zr_V h (23 + 7 * d) Q → ∃ h', zm_call 114 [.ref 22, .ref 1, .int (nI d), .int (nI v), .int (nI n), .int x4] h = some (some (.long (lN (zp_Wt v x4 k Q))), h') ∧ zk_K h' Y ∧ zm_Fr h h' (23 + 7 * (d + 1)) 86 := by
  have h10 : ¬ (1 : Int32) = 0 := by decide
  have h9 : (9 : Nat) < 2 ^ 31 := by decide
  intro k
  induction k with
  | zero =>
    intro d h Q hd ho q1 q2 q3 hK hV
    obtain ⟨gs, c1, c2⟩ := hK.2.2.1.2.2.1
    have rg := qr_reign hV
    refine ⟨h, ?_, hK, zFr_rf _ _ _⟩
    rw [zc114, zm_nx, zb114_0]
    simp only [c1, zq_ql_o (show d < 9 by omega) h9 (c2 _ (show d < 9 by omega)), zR_cell hV, zq_rc_o, rg, zq_bi_o, zm_nx]
    by_cases z : zp_reign Q = -4
    · rw [if_neg (not_not_intro z), zb114_15, zp_Wt_dead 0 Q ho z]
      rfl
    · rw [if_pos z, zb114_17, if_pos (nI_le (by omega) (by omega)), zm_nx, zb114_31]
      by_cases y : x4 = 0
      · rw [if_pos y, zm_nx, zb114_45, zm_nx, zb114_46]
        show _ = some (some (Value.long (lN (zp_val x4 Q))), h)
        unfold zp_val
        rw [if_pos y, if_neg z]
        rfl
      · rw [if_neg y, zm_nx, zb114_36]
        obtain ⟨S, s1, s2⟩ := zr_sum_n ho
        have su := qr_sum hV
        rw [s2] at su
        simp only [zR_cell hV, zq_rc_o, su, zq_bi_o, zm_nx]
        rw [zb114_46, nI_l (by omega)]
        show _ = some (some (Value.long (lN (zp_val x4 Q))), h)
        unfold zp_val
        rw [if_neg y, s2, nI_clamp (by omega)]
  | succ k ih =>
    intro d h Q hd ho q1 q2 q3 hK hV
    obtain ⟨gs, c1, c2⟩ := hK.2.2.1.2.2.1
    have rg := qr_reign hV
    rw [zc114, zm_nx, nI_clamp (show d < 2 ^ 31 by omega), zb114_0]
    simp only [c1, zq_ql_o (show d < 9 by omega) h9 (c2 _ (show d < 9 by omega)), zR_cell hV, zq_rc_o, rg, zq_bi_o, zm_nx]
    by_cases z : zp_reign Q = -4
    · refine ⟨h, ?_, hK, zFr_rf _ _ _⟩
      rw [if_neg (not_not_intro z), zb114_15, zp_Wt_dead (k + 1) Q ho z]
      rfl
    · have hr : 9 - (nI d + 1).toNatClampNeg < 9 - d := by
        rw [nI_1, nI_clamp (by omega)]
        omega
      rw [if_pos z, zb114_17, if_neg (nI_ge (by omega) (by omega)), zm_nx, zb114_23, c1, zq_ln_q, nI_1, if_pos (nI_lt (a := d + 1) (b := 9) (by omega) (by decide)), zm_nx, zb114_47]
      have part1 : ∃ h1 u, (if nI v ≤ (0 : Int32) then zm_nx (5 + (9 - d)) 114 82 [.ref 22, .ref 1, .int (nI d), .int (nI v), .int (nI n), .int x4, .ref (23 + 7 * d), .long 0, .null] [] h else zm_nx (5 + (9 - d)) 114 54 [.ref 22, .ref 1, .int (nI d), .int (nI v), .int (nI n), .int x4, .ref (23 + 7 * d), .long 0, .null] [] h) = zm_den (5 + (9 - d)) 114 82 [.ref 22, .ref 1, .int (nI d), .int (nI v), .int (nI n), .int x4, .ref (23 + 7 * d), .long (lN (v * zp_Wt v x4 k (zp_st true Q))), u] [] h1 ∧ zk_K h1 Y ∧ zm_Fr h h1 (23 + 7 * (d + 1)) 86 := by
        by_cases v0 : v = 0
        · subst v0
          refine ⟨h, .null, ?_, hK, zFr_rf _ _ _⟩
          rw [if_pos (by decide), Nat.zero_mul]
          rfl
        · obtain ⟨h1, s1, s2, s3, s4⟩ := qc_salted (s := true) (x2 := 1) (by decide) (show d < 8 by omega) hK hV ho q1 q2 q3
          have st := zp_st_c (P := Q) (s := true)
          obtain ⟨h2, w1, w2, w3⟩ := ih (d + 1) h1 (zp_st true Q) (by omega) (zp_ok_st ho) (st.2.1.trans q1) (st.2.2.1.trans q2) (by rw [st.2.2.2, q3]; omega) s3 s2
          refine ⟨h2, .null, ?_, w2, zFr_tr (zFr_mn s4 (by omega) (by omega)) (zFr_mn w3 (by omega) (by omega))⟩
          rw [if_neg (nI_nle (by omega) (by omega)), zm_nx, zb114_54 _ _ _ _ _ _ _ _ _ _ hr]
          simp only [s1, zq_bv_o, nI_1, w1, zq_bl_o, nI_l (show v < 2 ^ 31 by omega), lN_mul, zm_nx]
          rw [show (0 : Int64) = lN 0 from rfl, lN_add, Nat.zero_add]
      obtain ⟨h1, u, e1, K1, F1⟩ := part1
      rw [e1, zb114_82]
      show ∃ h', _ = some (some (Value.long (lN (v * zp_Wt v x4 k (zp_st true Q) + (10 - v) * zp_Wt v x4 k (zp_st false Q)))), h') ∧ _
      by_cases v10 : v = 10
      · refine ⟨h1, ?_, K1, F1⟩
        subst v10
        rw [if_pos (by decide), zm_nx, zb114_119, Nat.sub_self, Nat.zero_mul, Nat.add_zero]
      · have V1 : zr_V h1 (23 + 7 * d) Q := zR_keep hV fun b b1 b2 => F1.2.2 b (by omega)
        obtain ⟨h2, s1, s2, s3, s4⟩ := qc_salted (s := false) (x2 := 0) (by decide) (show d < 8 by omega) K1 V1 ho q1 q2 q3
        have st := zp_st_c (P := Q) (s := false)
        obtain ⟨h3, w1, w2, w3⟩ := ih (d + 1) h2 (zp_st false Q) (by omega) (zp_ok_st ho) (st.2.1.trans q1) (st.2.2.1.trans q2) (by rw [st.2.2.2, q3]; omega) s3 s2
        refine ⟨h3, ?_, w2, zFr_tr F1 (zFr_tr (zFr_mn s4 (by omega) (by omega)) (zFr_mn w3 (by omega) (by omega)))⟩
        have n10 : ¬ (10 : Int32) ≤ nI v := nI_ge (b := 10) (by omega) (by decide)
        have e10 : (10 : Int32) - nI v = nI (10 - v) := pk_sub (a := 10) (by omega)
        rw [if_neg n10, zm_nx, zb114_88 _ _ _ _ _ _ _ _ _ _ hr]
        simp only [s1, zq_bv_o, nI_1, w1, zq_bl_o, e10, nI_l (show 10 - v < 2 ^ 31 by omega), lN_mul, lN_add, zm_nx]
        rw [zb114_119]
end ZT66
