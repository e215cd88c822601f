section ZOPS3
variable {h : zm_H} {Y : zy_T}
theorem zf_meltM_e {f : zf_T} {a : Nat} (hf : zf_ok f) (ha : a < 10) : zf_meltM f.1 f.2.1 (nI a) = zf_melt f (nI a) := by
  obtain ⟨k, s, l, hk, hs, hl, rfl⟩ := hf
  unfold zf_meltM zf_melt
  rw [zf_e1 k hk a ha]
theorem zf_tipM_e {f : zf_T} {b : Nat} (hf : zf_ok f) (hb : b < 9) : zf_tipM f.1 (nI b - 4) = zf_tip f.1 (nI b) := by
  obtain ⟨k, s, l, hk, hs, hl, rfl⟩ := hf
  exact zf_e2 k hk b hb
theorem zt_figure (x y : Int32) (hK : zk_K h Y) (hO : zo_K h Y) : zt_R 67 148 [.int x, .int y] h := by
  have k0 := hK.1
  obtain ⟨kV, kO, kd⟩ := hK.2.1
  obtain ⟨ad, Q, -, -, v1, v2, v3, v4⟩ := zV_row kV
  obtain ⟨⟨g1, b1, b2⟩, ⟨g2, b3, b4⟩⟩ := zV_arr kV
  obtain ⟨A, g, a1, a2, a3, -⟩ := id hO
  have hM := zo_Ms a1
  have c1 := qc_isfig (x := x) k0 kV
  have c2 := qc_within (h := h) y 4
  have m1 := qm_isfig (x := x) a1 a2 v3
  have hc : (7 : Nat) < 2 ^ 31 := by decide
  have h10 : ¬ (1 : Int32) = 0 := by decide
  rcases zw_fig_c x v3 with e | ⟨i, hi, ex, e⟩
  · refine zt_ro (r := -1) hK hO ?_ ?_
    · rw [zc67, zm_nx, zb67_0]
      simp only [k0, zq_rc_o, c1, zq_bi_o, e, if_true, zm_nx, zb67_16]
    · rw [zc148, zm_nx, zb148_0]
      simp only [a1.1, zq_rc_o, m1, zq_bi_o, e, not_true_eq_false, if_false, zm_nx, zb148_8]
  · subst ex
    rw [e] at c1 m1
    have T1 : zm_call 67 [.ref 0, .int (nI i), .int y] h = zm_den 2 67 8 [.ref 0, .int (nI i), .int y, .null] [] h := by
      rw [zc67, zm_nx, zb67_0]
      simp only [k0, zq_rc_o, c1, zq_bi_o, h10, if_false, zm_nx]
    have T2 : zm_call 148 [.ref 137, .int (nI i), .int y] h = zm_den 3 148 10 [.ref 137, .int (nI i), .int y] [] h := by
      rw [zc148, zm_nx, zb148_0]
      simp only [a1.1, zq_rc_o, m1, zq_bi_o, h10, not_false_eq_true, if_true, zm_nx]
    rcases zts_c y 4 (by decide) with hy | ⟨w, hw, rfl⟩
    · have f : zw_in y 0 4 = 0 := by
        rcases zw_in_c y (u := 4) (by decide) with f | ⟨w, hw, ey, -⟩
        · exact f
        · subst ey
          rw [nI_toInt (by omega)] at hy
          exact absurd hy (by omega)
      refine zt_ro (r := -1) hK hO (T1.trans ?_) (T2.trans ?_)
      · rw [zb67_8]
        simp only [c2, zq_bi_o, f, not_true_eq_false, if_false, zm_nx, zb67_16]
      · rw [zb148_10, zts_o (hi := 4) (u := 4) rfl hy, zm_nx, zb148_100]
    · have f : zw_in (nI w) 0 4 = 1 := by
        rcases zw_in_c (nI w) (u := 4) (by decide) with f | ⟨w', hw', ey, f⟩
        · exfalso
          unfold zw_in at f
          rw [if_neg (nI_pos (by omega)), if_neg (nI_nlt (by omega) (by omega))] at f
          exact h10 f
        · exact f
      obtain ⟨ga, a, d1, d2, d3, -⟩ := zV_fig kV hi
      have i5 : i < 5 := by omega
      have T3 : zm_den 2 67 8 [.ref 0, .int (nI i), .int (nI w), .null] [] h = (if ¬ nI w = (3 : Int32) then zm_den 2 67 56 [.ref 0, .int (nI i), .int (nI w), .ref a] [] h else zm_den 2 67 36 [.ref 0, .int (nI i), .int (nI w), .ref a] [] h) := by
        rw [zb67_8]
        simp only [c2, zq_bi_o, f, h10, not_false_eq_true, if_true, zm_nx, zb67_18, k0, zkr0, v1, zgr_1_0, v2, zgr_2_0, d1, zq_ql_o i5 (by decide) d2]
      have T4 : zm_den 3 148 10 [.ref 137, .int (nI i), .int (nI w)] [] h = zm_den 3 148 ([44, 51, 60, 73, 85].getD w 0) [.ref 137, .int (nI i), .int (nI w)] [] h := by
        rw [zb148_10, zts_i (hi := 4) (u := 4) rfl hw (by decide), zm_nx]
      obtain ⟨⟨wa, hwa, ewa⟩, wb, hwb, ewb⟩ := kO.2.2 (Y.1.2.2.2.2 % 7) (Nat.mod_lt _ (by decide))
      have hlt : Y.1.2.2.2.2 % 7 < 7 := Nat.mod_lt _ (by decide)
      obtain ⟨p1, p2, p3⟩ := a2.2.1 i hi
      have hf := kO.2.1 i hi
      match w, hw with
      | 0, _ =>
        refine zt_ro (r := (Y.1.2.1 i).1) hK hO ((T1.trans T3).trans ?_) ((T2.trans T4).trans ?_)
        · rw [if_pos (by decide), zb67_56, if_pos (by decide), zm_nx, zb67_84, d3]
          show zq_bi _ _ = _
          rw [qc_tell d3, zq_bi_o]
          rfl
        · show zm_den 3 148 44 _ _ _ = _
          rw [zb148_44, a1.1, zor0, a1.2]
          exact zy_al (j := 0 + i) (by rw [Nat.zero_add]) (by omega) (by decide) p1
      | 1, _ =>
        refine zt_ro (r := (Y.1.2.1 i).2.1) hK hO ((T1.trans T3).trans ?_) ((T2.trans T4).trans ?_)
        · rw [if_pos (by decide), zb67_56, if_pos (by decide), zm_nx, zb67_84, d3]
          show zq_bi _ _ = _
          rw [qc_tell d3, zq_bi_o]
          rfl
        · show zm_den 3 148 51 _ _ _ = _
          rw [zb148_51, a1.1, zor0, a1.2]
          exact zy_al (j := 0 + 5 + i) (by rw [Nat.zero_add]; exact nI_add 5 i) (by omega) (by decide) p2
      | 2, _ =>
        refine zt_ro (r := (Y.1.2.1 i).2.2) hK hO ((T1.trans T3).trans ?_) ((T2.trans T4).trans ?_)
        · rw [if_pos (by decide), zb67_56, if_pos (by decide), zm_nx, zb67_84, d3]
          show zq_bi _ _ = _
          rw [qc_tell d3, zq_bi_o]
          rfl
        · show zm_den 3 148 60 _ _ _ = _
          rw [zb148_60, a1.1, zor0, a1.2]
          refine (zy_al (j := 0 + 10 + i) (by rw [Nat.zero_add]; exact nI_add 10 i) (by omega) (by decide) p3).trans ?_
          show some (some (Value.int (_ - 20 + 20)), h) = _
          rw [Int32.sub_add_cancel]
      | 3, _ =>
        refine zt_ro (r := zf_melt (Y.1.2.1 i) (nI wa)) hK hO ((T1.trans T3).trans ?_) ((T2.trans T4).trans ?_)
        · rw [if_neg (by decide), zb67_36]
          simp only [k0, zkr0, v1, zgr_1_1, zq_rc_o, qv_wday kV, zq_bi_o, b1, zq_al_o hlt hc, b2 _ hlt, ewa, d3]
          show zq_bi _ _ = _
          rw [qc_melts d3, zq_bi_o]
        · show zm_den 3 148 73 _ _ _ = _
          have w1 : zm_call 136 [.ref 137, .int (0 : Int32)] h = _ := qm_warm (p := 0) hM a2 (by omega) v4
          have w2 : zm_call 138 [.ref 137, .int (0 : Int32), .int (nI i), .int (nI wa)] h = _ := qm_melts (p := 0) hM (by omega)
          rw [p1, p2, zf_meltM_e hf hwa] at w2
          rw [ewa] at w1
          rw [zb148_73]
          simp only [a1.1, zq_rc_o, w1, zq_bi_o, w2]
      | 4, _ =>
        refine zt_ro (r := 20 + zf_tip (Y.1.2.1 i).1 (nI wb)) hK hO ((T1.trans T3).trans ?_) ((T2.trans T4).trans ?_)
        · rw [if_pos (by decide), zb67_56, if_neg (by decide), zm_nx, zb67_61]
          simp only [k0, zkr0, v1, zgr_1_2, zq_rc_o, qv_wday kV, zq_bi_o, b3, zq_al_o hlt hc, b4 _ hlt, ewb, d3]
          show zq_bi _ _ = _
          rw [qc_tips d3, zq_bi_o]
        · show zm_den 3 148 85 _ _ _ = _
          have w1 : zm_call 137 [.ref 137, .int (0 : Int32)] h = _ := qm_wind (p := 0) hM a2 (by omega) v4
          have w2 : zm_call 139 [.ref 137, .int (0 : Int32), .int (nI i), .int (nI wb - 4)] h = _ := qm_tips (p := 0) hM (by omega)
          rw [p1, zf_tipM_e hf hwb] at w2
          rw [ewb] at w1
          rw [zb148_85]
          simp only [a1.1, zq_rc_o, w1, zq_bi_o, w2]
      | n + 5, hn => exact absurd hn (by omega)
end ZOPS3
