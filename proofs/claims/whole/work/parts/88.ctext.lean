section ZT88
variable {h h0 : zm_H} {Y : zy_T}
theorem zp_ok_new : zp_ok zp_new := ⟨Nat.zero_le _, fun i hi => absurd hi (Nat.not_lt_zero _), fun d _ => ⟨⟨1, by decide, rfl⟩, ⟨4, by decide, rfl⟩⟩⟩
theorem zx_bool0 : vp_nar .boolean 0 = 0 := by decide +kernel
def tk_tx (t : tk_T) : Nat × Nat × Nat × zp_T := tk_all t 161 0 zp_new 0 0
theorem qr_all (hK : zk_K h Y) : ∃ h1 a' k' q' v' td' P', zm_call 47 [.ref 91] h = some (none, h1) ∧ zc_R h h1 Y.2.1 a' k' q' v' (nI (tk_tx Y.2.1).2.2.1) (nI (tk_tx Y.2.1).1) (nI (tk_tx Y.2.1).2.1) td' P' ∧ ((tk_tx Y.2.1).1 = 0 → P' = (tk_tx Y.2.1).2.2.2) := by
  obtain ⟨t0, t1, ⟨ta, tb, tc, td, t2⟩, ⟨gc, t3, t4⟩, ⟨ra, rb, rc, rd, t5⟩, ⟨P, t6⟩⟩ := hK.2.2.2.1
  have R0 : zc_R h h Y.2.1 ta tb tc td ra rb rc rd P := ⟨t2, t5, t6, zFr_rf _ _ _, gc, t3, t4⟩
  obtain ⟨ad, Q, W, -⟩ := id t6
  have r2 : zm_g h 91 = zc_rd ra rb rc rd := t5
  obtain ⟨h1, e1, W1, F1⟩ := qc_renew W
  have V1 : zp_V h1 94 zp_new := ⟨ad, _, W1, rfl, fun i hi => absurd hi (Nat.not_lt_zero _), fun d _ => ⟨rfl, rfl⟩, rfl⟩
  have R1 := zc_R94 R0 V1 F1
  have R2 := zc_R93 (L' := 0) (fa' := 0) (fp' := 0) (td' := 0) R1
  have R3 := zc_R91 (a' := 0) (k' := tb) (q' := tc) (v' := td) R2
  obtain ⟨h', g1, a', k', q', v', td', P', g2, g3⟩ := qr_all_l t0 t1 161 0 0 _ _ 0 0 tb tc td (by omega) (Nat.zero_le _) (by omega) (by decide) zp_ok_new R3
  refine ⟨h', a', k', q', v', td', P', ?_, g2, g3⟩
  rw [zc47, zm_nx, zb47_0, r2, zrg1, W.2.1, zq_rc_o, e1, zq_bv_o, R1.2.1, zrp5, zg_ss, zrp2, zs_ss, zg_ss, zrp3, zs_ss, zg_ss, zrp4, zs_ss, zg_ss, zrg0, R2.1, ztrc, zc41, zm_nx, zb41_0, R2.1, ztp2, zq_bv_o, zm_nx]
  exact g1
/-- the class after its reading, before it answers -/
theorem qc_text0 (hK : zk_K h Y) : ∃ h1 P' a k q v L' td', zm_call 64 [.ref 0] h = (if nI (tk_tx Y.2.1).1 = (0 : Int32) then zm_den 9 64 47 [.ref 0, .null] [] h1 else zm_den 9 64 36 [.ref 0, .null] [] h1) ∧ zk_K h1 (Y.1, (0, Y.2.1.2), (nI (tk_tx Y.2.1).1, Y.2.2.1.2), Y.2.2.2) ∧ zm_g h1 92 = zc_tp 0 a k q v ∧ zm_g h1 91 = zc_rd (nI (tk_tx Y.2.1).2.2.1) L' (nI (tk_tx Y.2.1).2.1) td' ∧ zp_V h1 94 P' ∧ zm_Fr h h1 0 137 ∧ ((tk_tx Y.2.1).1 = 0 → P' = (tk_tx Y.2.1).2.2.2) := by
  have k0 := hK.1
  obtain ⟨h1, a', k', q', v', td', P', e1, R1, hP⟩ := qr_all hK
  obtain ⟨r1, r2, r3, r4, g, r5, r6⟩ := id R1
  have c0 : zm_g h1 0 = .inr (6, zk_c Y.2.2.1.1 (nI Y.2.2.2.1.1) Y.2.2.1.2) := (r4.2.2 0 (by omega)).trans k0
  have z91 : ∀ x : va_E, zm_g (zm_s h1 92 x) 0 = .inr (6, zk_c Y.2.2.1.1 (nI Y.2.2.2.1.1) Y.2.2.1.2) := fun x => by rw [zg_sn (by omega)]; exact c0
  have r93 : ∀ x : va_E, zm_g (zm_s h1 92 x) 91 = zc_rd (nI (tk_tx Y.2.1).2.2.1) (nI (tk_tx Y.2.1).1) (nI (tk_tx Y.2.1).2.1) td' := fun x => by rw [zg_sn (by omega)]; exact r2
  have ztp1 : ∀ (o : va_E → zm_O), zq_pi (zc_tp Y.2.1.1 a' k' q' v') 4 1 0 o = o (zc_tp 0 a' k' q' v') := fun o => rfl
  have c93 : zm_g h 91 = zm_g h 91 := rfl
  obtain ⟨ra, rb, rc, rd, t5⟩ := hK.2.2.2.1.2.2.2.2.1
  have t5' : zm_g h 91 = zc_rd ra rb rc rd := t5
  obtain ⟨H, eH⟩ : ∃ H, H = zm_s (zm_s h1 92 (zc_tp 0 a' k' q' v')) 0 (.inr (6, zk_c (nI (tk_tx Y.2.1).1) (nI Y.2.2.2.1.1) Y.2.2.1.2)) := ⟨_, rfl⟩
  have kk : ∀ b, b ≠ 0 → b ≠ 92 → zm_g H b = zm_g h1 b := fun b b1 b2 => by rw [eH, zg_sn b1, zg_sn b2]
  refine ⟨H, P', a', k', q', v', (nI (tk_tx Y.2.1).1), td', ?_, ?_, ?_, ?_, ?_, ?_, hP⟩
  · rw [zc64, zm_nx, zb64_0, k0, zkr6, t5', zrrc, e1, zq_bv_o, c0, zkr6, r2, zrg0, r1, ztp1, z91, zkr6, r93, zrg3, zkp7, zg_ss, zki7, ← eH, zm_nx, zm_nx]
  · have X1 : zk_X (zm_s h1 92 (zc_tp 0 a' k' q' v')) (0, Y.2.1.2) := ⟨Nat.zero_le _, fun j hj => absurd hj (Nat.not_lt_zero _), ⟨a', k', q', v', by rw [zg_ss]; rfl⟩, ⟨g, by rw [zg_sn (by omega)]; exact r5, fun j hj => absurd hj (Nat.not_lt_zero _)⟩, ⟨_, _, _, _, by rw [zg_sn (by omega)]; exact r2⟩, ⟨P', zV_keep r3 fun b b1 b2 => zg_sn (by omega)⟩⟩
    have K1 := zk_setX (t := (0, Y.2.1.2)) hK X1 fun b hb => by rw [zg_sn (by omega)]; exact r4.2.2 b hb
    rw [eH]
    exact zk_setR (F := nI (tk_tx Y.2.1).1) (R := Y.2.2.1.2) K1 zg_ss fun b hb => zg_sn hb
  · rw [eH, zg_sn (by omega), zg_ss]
  · rw [kk 91 (by omega) (by omega)]; exact r2
  · exact zV_keep r3 fun b b1 b2 => kk b (by omega) (by omega)
  · rw [eH]
    exact zFr_tr (zFr_mn r4 (by omega) (by omega)) (zFr_tr (zFr_s (by omega) (by omega)) (zFr_s (by omega) (by omega)))
theorem qc_text1 (hK : zk_K h Y) (hc : ¬ (tk_tx Y.2.1).1 = 0) (hl : (tk_tx Y.2.1).1 < 100) : ∃ h1, zm_call 64 [.ref 0] h = some (some (.int (-10 - nI (tk_tx Y.2.1).2.1)), h1) ∧ zk_K h1 (Y.1, (0, Y.2.1.2), (nI (tk_tx Y.2.1).1, Y.2.2.1.2), Y.2.2.2) ∧ zm_Fr h h1 0 137 := by
  obtain ⟨h1, P', a, k, q, v, L', td', e1, K1, r1, r2, r3, F1, -⟩ := qc_text0 hK
  refine ⟨h1, ?_, K1, F1⟩
  rw [e1, if_neg (nI_ne0 (by omega) (by omega)), zb64_36, K1.1, zkr6, r2, zrg4]
theorem qc_text2 (hK : zk_K h Y) (hc : (tk_tx Y.2.1).1 = 0) : ∃ h1, zm_call 64 [.ref 0] h = some (some (.int (nI (tk_tx Y.2.1).2.2.1)), h1) ∧ zk_K h1 ((tk_tx Y.2.1).2.2.2, (0, Y.2.1.2), (0, Y.2.2.1.2), (0, Y.2.2.2.1.2), ((fun _ => 0), Y.2.2.2.2.1.2), Y.2.2.2.2.2) ∧ zm_Fr h h1 0 137 := by
  obtain ⟨h1, P', a, k, q, v, L', td', e1, K1, r1, r2, r3, F1, hP⟩ := qc_text0 hK
  have hP := hP hc
  obtain ⟨kV, -, -⟩ := K1.2.1
  obtain ⟨adk, Qk, -, -, v1, -⟩ := zV_row kV
  obtain ⟨h2, s1, s2, s3⟩ := qv_copy (p := 1) (q := 94) (by omega) kV r3
  obtain ⟨t0, t1, -⟩ := hK.2.2.2.1
  obtain ⟨o1, o2⟩ := tk_all_ok t1 161 0 zp_new 0 0 (by decide) (Nat.zero_le _) zp_ok_new hc
  have o2' : P'.2.2.2.2 < 1000 := by
    rw [hP]
    show (tk_all Y.2.1 161 0 zp_new 0 0).2.2.2.2.2.2.2 < 1000
    rw [o2]
    decide
  have o1' : zp_ok P' := by rw [hP]; exact o1
  have K2 := zk_now K1 s2 o1' o2' s3
  have k2 := K2.1
  obtain ⟨H, eH⟩ : ∃ H, H = zm_s h2 0 (.inr (6, zk_c (nI (tk_tx Y.2.1).1) (nI 0) Y.2.2.1.2)) := ⟨_, rfl⟩
  have g0 : zm_g H 0 = .inr (6, zk_c (nI (tk_tx Y.2.1).1) (nI 0) Y.2.2.1.2) := by rw [eH, zg_ss]
  have K3 : zk_K H (P', (0, Y.2.1.2), (nI (tk_tx Y.2.1).1, Y.2.2.1.2), (0, Y.2.2.2.1.2), Y.2.2.2.2) := by
    rw [eH]
    refine zk_setE (s := (0, Y.2.2.2.1.2)) K2 zg_ss ?_ fun b b1 _ _ => zg_sn b1
    obtain ⟨x1, ⟨g1, x2, x3⟩, ⟨g2, x4, x5⟩, x6⟩ := K2.2.2.2.2.1
    exact ⟨Nat.zero_le _, ⟨g1, by rw [zg_sn (by omega)]; exact x2, fun j hj => absurd hj (Nat.not_lt_zero _)⟩, ⟨g2, by rw [zg_sn (by omega)]; exact x4, fun j hj => absurd hj (Nat.not_lt_zero _)⟩, fun j hj => absurd hj (Nat.not_lt_zero _)⟩
  obtain ⟨i1, ⟨gk, i2, i3⟩, i4, i5, i6⟩ := K3.2.2.2.2.2.1
  obtain ⟨H2, eH2⟩ : ∃ H2, H2 = zm_s H 127 (.inl (2, 2, .inl (upd (upd gk 0 0) 1 0))) := ⟨_, rfl⟩
  have K4 : zk_K H2 (P', (0, Y.2.1.2), (nI (tk_tx Y.2.1).1, Y.2.2.1.2), (0, Y.2.2.2.1.2), ((fun _ => 0), Y.2.2.2.2.1.2), Y.2.2.2.2.2) := by
    rw [eH2]
    refine zk_setI (I := ((fun _ => 0), Y.2.2.2.2.1.2)) K3 ?_ fun b hb => zg_sn (by omega)
    refine ⟨?_, ⟨_, zg_ss, fun j hj => ?_⟩, fun j hj => Or.inl rfl, fun j hj => zV_keep (i5 j hj) fun b b1 b2 => zg_sn (by omega), fun j hj w => absurd (show (0 : Int32) = 1 from w) (by decide)⟩
    · obtain ⟨g, x1, x2⟩ := i1
      exact ⟨g, by rw [zg_sn (by omega)]; exact x1, x2⟩
    · by_cases z : j = 1
      · subst z; rw [pk_us]
      · rw [pk_un z, show j = 0 by omega, pk_us]
  have g20 : zm_g H2 0 = .inr (6, zk_c (nI (tk_tx Y.2.1).1) (nI 0) Y.2.2.1.2) := by rw [eH2, zg_sn (by omega)]; exact g0
  have g293 : zm_g H2 91 = zc_rd (nI (tk_tx Y.2.1).2.2.1) L' (nI (tk_tx Y.2.1).2.1) td' := by rw [eH2, zg_sn (by omega), eH, zg_sn (by omega), s3.2.2 91 (by omega)]; exact r2
  rw [hc, hP] at K4
  refine ⟨H2, ?_, K4, ?_⟩
  · rw [e1, hc, if_pos (by decide), zb64_47, K1.1, zkr0, zkr6, r2, zrg1, v1, zq_rc_o, s1, zq_bv_o, k2, zkp10]
    rw [show zm_s h2 0 (.inr (6, zk_c (nI (tk_tx Y.2.1).1) 0 Y.2.2.1.2)) = H from eH.symm, zm_nx, zb64_68, if_neg (by decide), zm_nx, zb64_73, g0, zkr12, i2]
    have a0 : ∀ (f : va_E → zm_O), zq_as (.inl (2, 2, .inl gk)) 2 (0 : Int32) (vp_nar .boolean 0) f = f (.inl (2, 2, .inl (upd gk 0 0))) := fun f => by rw [zx_bool0]; exact zq_as_o (j := 0) (by decide) (by decide)
    have a1 : ∀ (f : va_E → zm_O), zq_as (.inl (2, 2, .inl (upd gk 0 0))) 2 (1 : Int32) (vp_nar .boolean 0) f = f (.inl (2, 2, .inl (upd (upd gk 0 0) 1 0))) := fun f => by rw [zx_bool0]; exact zq_as_o (j := 1) (by decide) (by decide)
    rw [a0, zm_nx, zb64_68, if_neg (by decide), zm_nx, zb64_73, zg_sn (by omega), g0, zkr12, zg_ss, show (0 : Int32) + 1 = 1 by decide, a1, zs_ss, ← eH2, zm_nx, zb64_68, if_pos (by decide), zm_nx, zb64_86, g20, zkr6, g293, zrg2]
  · rw [eH2, eH]
    exact zFr_tr F1 (zFr_tr (zFr_mn s3 (by omega) (by omega)) (zFr_tr (zFr_s (by omega) (by omega)) (zFr_s (by omega) (by omega))))
end ZT88
