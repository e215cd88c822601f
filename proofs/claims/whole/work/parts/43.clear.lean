section ZCLEAR
variable {h : zm_H} {Y : zy_T}
theorem zt_clear (x : Int32) (hK : zk_K h Y) (hO : zo_K h Y) : zt_R 74 158 [.int x] h := by
  have k0 := hK.1
  obtain ⟨kV, kO, kd⟩ := hK.2.1
  obtain ⟨ad, Q, q1, q2, v1, v2, v3, v4⟩ := zV_row kV
  obtain ⟨A, g, a1, a2, a3, -⟩ := id hO
  have c1 := qc_within (h := h) x (nI Y.1.1)
  have m1 := fun h : zm_H => qm_in (h := h) x 0 (nI Y.1.1) (0 : Int64) (nI Y.1.1).toInt64 (by decide) rfl
  have h10 : ¬ (1 : Int32) = 0 := by decide
  have e15 : ∀ f : Int32 → zm_O, zq_al (.inl (0, 186, .inl g)) 0 (15 : Int32) f = f (nI Y.1.1) := fun f => zy_al (j := 15) rfl (by decide) (by decide) a2.1
  rcases zw_in_c x (u := Y.1.1) (by omega) with e | ⟨n, hn, ex, e⟩
  · refine zt_ro (r := -1) hK hO ?_ ?_
    · rw [zc74, zm_nx, zb74_0]
      simp only [k0, zkr0, v1, zgr_1_0, v2, zgi_2_1, c1, zq_bi_o, e, not_true_eq_false, if_false, zm_nx, zb74_17]
    · rw [zc158, zm_nx, zb158_0]
      simp only [a1.1, zor0, a1.2, e15, m1, zq_bi_o, e, zq_rc_o, qm_puts0 rfl]
  · subst ex
    have W' : zp_W (zm_s h 2 (.inr (2, [.ref 3, .int (nI n)]))) 1 ad (n, Q.2) := by
      obtain ⟨b1, b2, ⟨b3, b4, ⟨gg, b5, b6⟩, b7, b8, b9⟩, ⟨g1, b10, b11⟩, ⟨g2, b12, b13⟩⟩ := q1
      refine ⟨b1, by rw [zg_sn (by omega)]; exact b2, ⟨by show n ≤ 5; omega, zg_ss, ⟨gg, by rw [zg_sn (by omega)]; exact b5, b6⟩, fun i hi => ?_, b8, b9⟩, ⟨g1, by rw [zg_sn (by omega)]; exact b10, b11⟩, ⟨g2, by rw [zg_sn (by omega)]; exact b12, b13⟩⟩
      have := b8 i hi
      rw [zg_sn (by omega)]
      exact b7 i hi
    have V' : zp_V (zm_s h 2 (.inr (2, [.ref 3, .int (nI n)]))) 1 (n, Y.1.2) := ⟨ad, _, W', rfl, fun i hi => q2.2.1 i (by rw [q2.1]; exact Nat.lt_of_lt_of_le hi hn), q2.2.2.1, q2.2.2.2⟩
    have F1 : zm_Fr h (zm_s h 2 (.inr (2, [.ref 3, .int (nI n)]))) 1 11 := zFr_s (by omega) (by omega)
    have K2 := zk_now hK V' ⟨by show n ≤ 5; omega, fun i hi => kO.2.1 i (Nat.lt_of_lt_of_le hi hn), kO.2.2⟩ kd F1
    have O1 : zo_K (zm_s h 2 (.inr (2, [.ref 3, .int (nI n)]))) Y := zo_keep hO fun b b1 b2 => zg_sn (by omega)
    have K1 : zo_M (zm_s h 2 (.inr (2, [.ref 3, .int (nI n)]))) 137 A g := ⟨by rw [zg_sn (by omega)]; exact a1.1, by rw [zg_sn (by omega)]; exact a1.2⟩
    have p1 := qm_puts (x := 1) (v := nI n) (less := 0) (j := 15) K1 h10 (by decide)
    have p1' : zm_call 150 [.ref 137, .int 1, .int (15 : Int32), .int (nI n), .int 0] (zm_s h 2 (.inr (2, [.ref 3, .int (nI n)]))) = _ := p1
    have M2 : zo_M (zm_s (zm_s h 2 (.inr (2, [.ref 3, .int (nI n)]))) 138 (.inl (0, 186, .inl (upd g 15 (nI n - 0))))) 137 A (upd g 15 (nI n - 0)) := ⟨by rw [zg_sn (by omega)]; exact K1.1, zg_ss⟩
    have F2 : zm_Fr (zm_s h 2 (.inr (2, [.ref 3, .int (nI n)]))) (zm_s (zm_s h 2 (.inr (2, [.ref 3, .int (nI n)]))) 138 (.inl (0, 186, .inl (upd g 15 (nI n - 0))))) 138 139 := zFr_s (by omega) (by omega)
    have P2 : zs_P (upd g 15 (nI n - 0)) 0 (n, Y.1.2) := by
      refine ⟨by rw [Int32.sub_zero]; exact pk_us, fun i hi => ?_, fun d hd => ?_, by rw [pk_un (by omega)]; exact a2.2.2.2⟩
      · have hi' : i < n := hi
        rw [pk_un (by omega), pk_un (by omega), pk_un (by omega)]
        exact a2.2.1 i (by omega)
      · rw [pk_un (by omega), pk_un (by omega)]
        exact a2.2.2.1 d hd
    have g15 : g 15 = nI Y.1.1 := a2.1
    have hKm : zk_K (zm_s h 2 (.inr (2, [.ref 3, .int (nI n)]))) (((n, Y.1.2), Y.2) : zy_T) := K2
    refine ⟨_, _, nI Y.1.1, ((n, Y.1.2), Y.2), ?_, ?_, zk_keep hKm fun b hb => F2.2.2 b (by omega), ?_, zFr_12 (zFr_mn F1 (by omega) (by omega)) (zFr_mn F2 (by omega) (by omega))⟩
    · rw [zc74, zm_nx, zb74_0]
      simp only [k0, zkr0, v1, zgr_1_0, v2, zgi_2_1, c1, zq_bi_o, e, h10, not_false_eq_true, if_true, zm_nx, zb74_19, zpi_2_1]
      rfl
    · rw [zc158, zm_nx, zb158_0]
      simp only [K1.1, zor0, K1.2, e15, m1, zq_bi_o, e, zq_rc_o, p1', g15, Int32.add_zero]
    · exact zo_now (Y := Y) hK.2.2.2.2.2.1 O1 K1 M2 P2 (fun q q1 q2 => pk_un (by omega)) F2
end ZCLEAR
