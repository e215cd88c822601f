theorem zpf_1 (f : zf_T) (x : Int32) (o : va_E → zm_O) : zq_pi (zf_c f) 0 1 x o = o (zf_c (f.1, x, f.2.2)) := rfl
theorem zpf_0 (f : zf_T) (x : Int32) (o : va_E → zm_O) : zq_pi (zf_c f) 0 0 x o = o (zf_c (x, f.2.1, f.2.2)) := rfl
theorem zrf_c (f : zf_T) (o : zm_O) : zq_rc (zf_c f) 0 o = o := rfl
section ZT57
variable {h h0 : zm_H} {Y : zy_T} {A0 g0 A g : Nat → Int32} {i : Nat}
theorem zf_fall_sf {P : zp_T} {f : zf_T} (hi : i < P.1) : zf_fall P.2.2.1 P.2.2.2.1 P.2.2.2.2 61 0 f = zp_fall i 61 0 (zp_sf P i f) := by
  have e := zf_fall_p (i := i) (w := P.2.2.1) (d := P.2.2.2.1) (day := P.2.2.2.2) 61 0 (zp_sf P i f) hi rfl rfl rfl
  have e2 : (zp_sf P i f).2.1 i = f := if_pos rfl
  rw [e2] at e
  exact e
theorem zp_fall_same {P : zp_T} (hi : i < P.1) : zf_fall P.2.2.1 P.2.2.2.1 P.2.2.2.2 61 0 (P.2.1 i) = zp_fall i 61 0 P := zf_fall_p 61 0 P hi rfl rfl rfl
theorem zt_falls (x : Int32) (hK : zk_K h Y) (hO : zo_K h Y) : zt_R 78 165 [.int x] h := by
  have k0 := hK.1
  obtain ⟨kV, kO, kd⟩ := hK.2.1
  obtain ⟨ad, Q, -, -, v1, v2, v3, v4⟩ := zV_row kV
  obtain ⟨A, g, a1, a2, a3, -⟩ := id hO
  have h10 : ¬ (1 : Int32) = 0 := by decide
  have c0 := qc_isfig (x := x) k0 kV
  have m0 := qm_isfig (x := x) a1 a2 v3
  rcases zw_fig_c x v3 with e | ⟨i, hi, ex, e⟩
  · refine zt_ro (r := -1) hK hO ?_ ?_
    · simp only [zc78, zB78, k0, c0, e, zm_nx, zq_rc_o, zq_bi_o, zq_bl_o, zq_bv_o, not_true_eq_false, not_false_eq_true, if_true, if_false, h10, ite_self]
    · simp only [zc165, zB165, a1.1, m0, e, zm_nx, zq_rc_o, zq_bi_o, zq_bl_o, zq_bv_o, not_true_eq_false, not_false_eq_true, if_true, if_false, h10, ite_self]
  · subst ex
    rw [e] at c0
    obtain ⟨ga, a, d1, d2, d3, d4, d5⟩ := zV_fig kV hi
    obtain ⟨fp, hp⟩ := hK.2.2.1.2.1
    have cp := qc_copy hp d3
    obtain ⟨h1, b1, b2, b3⟩ := qc_probe (f := Y.1.2.1 i) hK
    rw [zp_fall_same hi] at b1
    have k1 : zm_g (zm_s h 21 (zf_c (Y.1.2.1 i))) 0 = _ := (zg_sn (by omega)).trans k0
    have le := (zp_fall_le (i := i) 61 0 Y.1 (by omega)).2
    have T : nI (zp_fall i 61 0 Y.1) = (61 : Int32) ↔ zp_fall i 61 0 Y.1 = 61 := nI_eq (b := 61) (by omega) (by decide)
    refine zt_mk hO (r := if zp_fall i 61 0 Y.1 = 61 then -4 else nI (zp_fall i 61 0 Y.1)) ?_ b2 (zFr_mn b3 (by omega) (by omega)) fun O1 => ?_
    · have E : zm_call 78 [.ref 0, .int (nI i)] h = (if ¬ nI (zp_fall i 61 0 Y.1) = (61 : Int32) then zm_den 4 78 45 [.ref 0, .int (nI i), .int (nI (zp_fall i 61 0 Y.1))] [] h1 else zm_den 4 78 40 [.ref 0, .int (nI i), .int (nI (zp_fall i 61 0 Y.1))] [] h1) := by
        rw [zc78, zm_nx, zb78_0]
        simp only [k0, zq_rc_o, c0, zq_bi_o, h10, not_false_eq_true, if_true, zm_nx]
        rw [zb78_10]
        simp only [k0, zkr2, zkr0, v1, zgr_1_0, v2, zgr_2_0, d1, zq_ql_o (show i < 5 by omega) (by decide) d2, hp, zrf_c, cp, zq_bv_o, k1, zq_rc_o, b1, zq_bi_o, zm_nx]
      rw [E]
      by_cases z : zp_fall i 61 0 Y.1 = 61
      · rw [if_neg (not_not_intro (T.mpr z)), if_pos z, zb78_40, zm_nx, zb78_46]
      · rw [if_pos (fun q => z (T.mp q)), if_neg z, zb78_45, zm_nx, zb78_46]
    obtain ⟨A, g, J, a2⟩ := zo_J0 O1
    have m0 := qm_isfig (x := nI i) J.1 a2 v3
    rw [e] at m0
    obtain ⟨h2, g2, q1, q2, q3⟩ := zo_Jf (f := 0) J (Or.inl (by omega)) a2 kO kd hi
    have q1' : zm_call 164 [.ref 137, .int (0 : Int32), .int (nI i)] h1 = _ := q1
    have R := zo_Je (P := Y.1) hK.2.2.2.2.2.1 O1 J.1 q2 (zs_Pk a2 v3 fun q _ _ => q3 q (by omega))
    refine ⟨h2, ?_, R.1, R.2⟩
    simp only [zc165, zB165, J.1.1, m0, q1', zm_nx, zq_rc_o, zq_bi_o, zq_bl_o, zq_bv_o, not_true_eq_false, not_false_eq_true, if_true, if_false, h10, ite_self]
def zp_need (i N : Nat) (P : zp_T) : Nat → Nat → Int32
  | 0, _ => -4
  | k + 1, v => if zp_fall i 61 0 (zp_sf P i ((P.2.1 i).1, nI v, (P.2.1 i).2.2)) ≤ N then zp_need i N P k (v + 1) else nI v
theorem qc_need_l {N : Nat} (hN : N ≤ 60) (hi : i < Y.1.1) : ∀ (k v : Nat) (h : zm_H), v + k = 100 → zk_K h Y → ∃ h', zm_den 4 82 21 [.ref 0, .int (nI i), .int (nI N), .int (nI v)] [] h = some (some (.int (zp_need i N Y.1 k v)), h') ∧ zk_K h' Y ∧ zm_Fr h h' 21 22 := by
  intro k
  induction k with
  | zero =>
    intro v h hv hK
    have : v = 100 := by omega
    subst this
    refine ⟨h, ?_, hK, zFr_rf _ _ _⟩
    rw [zb82_21, if_pos (by decide), zm_nx, zb82_70]
    rfl
  | succ k ih =>
    intro v h hv hK
    have k0 := hK.1
    obtain ⟨kV, kO, kd⟩ := hK.2.1
    obtain ⟨ad, Q, -, -, v1, v2, v3, v4⟩ := zV_row kV
    obtain ⟨ga, a, d1, d2, d3, d4, d5⟩ := zV_fig kV hi
    obtain ⟨fp, hp⟩ := hK.2.2.1.2.1
    have cp := qc_copy hp d3
    obtain ⟨h1, b1, b2, b3⟩ := qc_probe (f := ((Y.1.2.1 i).1, nI v, (Y.1.2.1 i).2.2)) hK
    rw [zf_fall_sf hi] at b1
    have k1 : ∀ c, zm_g (zm_s h 21 c) 0 = .inr (6, zk_c Y.2.2.1.1 (nI Y.2.2.2.1.1) Y.2.2.1.2) := fun c => by rw [zg_sn (by decide)]; exact k0
    have le := (zp_fall_le (i := i) 61 0 (zp_sf Y.1 i ((Y.1.2.1 i).1, nI v, (Y.1.2.1 i).2.2)) (by omega)).2
    have T : nI (zp_fall i 61 0 (zp_sf Y.1 i ((Y.1.2.1 i).1, nI v, (Y.1.2.1 i).2.2))) ≤ nI N ↔ zp_fall i 61 0 (zp_sf Y.1 i ((Y.1.2.1 i).1, nI v, (Y.1.2.1 i).2.2)) ≤ N := nI_leI (by omega) (by omega)
    have hlt : ¬ (99 : Int32) < nI v := nI_nlt (a := 99) (b := v) (by omega) (by decide)
    have E : zm_den 4 82 21 [.ref 0, .int (nI i), .int (nI N), .int (nI v)] [] h = (if nI (zp_fall i 61 0 (zp_sf Y.1 i ((Y.1.2.1 i).1, nI v, (Y.1.2.1 i).2.2))) ≤ nI N then zm_den 4 82 64 [.ref 0, .int (nI i), .int (nI N), .int (nI v)] [] h1 else zm_den 4 82 62 [.ref 0, .int (nI i), .int (nI N), .int (nI v)] [] h1) := by
      rw [zb82_21, if_neg hlt, zm_nx, zb82_27]
      simp only [k0, zkr2, zkr0, v1, zgr_1_0, v2, zgr_2_0, d1, zq_ql_o (show i < 5 by omega) (by decide) d2, hp, zrf_c, cp, zq_bv_o, k1, zg_ss, zpf_1, zs_ss, zq_rc_o, b1, zq_bi_o, zm_nx]
    by_cases z : zp_fall i 61 0 (zp_sf Y.1 i ((Y.1.2.1 i).1, nI v, (Y.1.2.1 i).2.2)) ≤ N
    · obtain ⟨h', e1, e2, e3⟩ := ih (v + 1) h1 (by omega) b2
      refine ⟨h', ?_, e2, zFr_tr b3 e3⟩
      rw [E, if_pos (T.mpr z), zb82_64, zm_nx, nI_1, zp_need, if_pos z]
      exact e1
    · refine ⟨h1, ?_, b2, b3⟩
      rw [E, if_neg (fun q => z (T.mp q)), zb82_62, zp_need, if_neg z]
theorem qm_need_l {N : Nat} {P : zp_T} (hN : N ≤ 60) (ho : zp_ok P) (hd : P.2.2.2.2 < 1000) (hi : i < P.1) : ∀ (k v : Nat) (h : zm_H) (A g : Nat → Int32), v + k = 100 → zo_J h0 h A0 g0 A g → zs_P g 0 P → ∃ h' A' g', zm_den 5 170 24 [.ref 137, .int (nI i), .int (nI N), .int (nI v)] [] h = some (some (.int (zp_need i N P k v)), h') ∧ zo_J h0 h' A0 g0 A' g' ∧ zs_P g' 0 P := by
  have i5 := ho.1
  intro k
  induction k with
  | zero =>
    intro v h A g hv J hP
    have : v = 100 := by omega
    subst this
    refine ⟨h, A, g, ?_, J, hP⟩
    rw [zb170_24, if_pos (by decide), zm_nx, zb170_78]
    rfl
  | succ k ih =>
    intro v h A g hv J hP
    have hlt : ¬ (99 : Int32) < nI v := nI_nlt (a := 99) (b := v) (by omega) (by decide)
    obtain ⟨h1, g1, c1, c2, c3, c4⟩ := zo_Jc J hP ho.1 (t := 155) (by omega)
    have c1' : zm_call 160 [.ref 137, .int (0 : Int32), .int (155 : Int32)] h = some (none, h1) := c1
    obtain ⟨f, ef⟩ : ∃ f : zf_T, f = ((P.2.1 i).1, nI v, (P.2.1 i).2.2) := ⟨_, rfl⟩
    have J2 := zo_Js (g2 := upd g1 (155 + 5 + i) (nI v)) c2 fun q _ _ => pk_un (by omega)
    have P2 : zs_P (upd g1 (155 + 5 + i) (nI v)) 155 (zp_sf P i f) := by
      refine zs_Psf c3 i5 (fun q _ _ _ _ _ => pk_un (by omega)) hi ?_ ?_ ?_
      · rw [pk_un (by omega), ef]; exact (c3.2.1 i hi).1
      · rw [pk_us, ef]
      · rw [pk_un (by omega), ef]; exact (c3.2.1 i hi).2.2
    have fo : zf_ok f := by
      obtain ⟨kk, s, l, hk, hs, hl, e⟩ := ho.2.1 i hi
      rw [ef, e]
      exact ⟨kk, v, l, hk, by omega, hl, rfl⟩
    have ho2 : zp_ok (zp_sf P i f) := zp_ok_sf ho fo
    obtain ⟨h3, A3, g3, r, d1, d2, d3, -, -, -, -, -, d4⟩ := zo_Jd (f := 155) (N := N) J2 (Or.inr rfl) P2 ho2 (by show P.2.2.2.2 + N < _; omega)
    have d1' : zm_call 161 [.ref 137, .int (155 : Int32), .int (nI N)] (zm_s h1 (137 + 1) (.inl (0, 186, .inl (upd g1 (155 + 5 + i) (nI v))))) = some (none, h3) := d1
    have hi3 : i < (zp_run N (zp_sf P i f)).1 := by rw [zp_run_n]; exact hi
    have q1 : ∀ o : Int32 → zm_O, zq_al (.inl (0, 186, .inl g3)) 0 ((129 : Int32) + nI i) o = o ((zp_run N (zp_sf P i f)).2.1 i).2.1 := fun o => zy_al (j := 124 + 5 + i) (nI_add 129 i) (by omega) (by decide) (d3.2.1 i hi3).2.1
    have s1 : ∀ (x : Int32) (o : va_E → zm_O), zq_as (.inl (0, 186, .inl g1)) 0 ((160 : Int32) + nI i) x o = o (.inl (0, 186, .inl (upd g1 (155 + 5 + i) x))) := fun x o => by
      rw [show (160 : Int32) + nI i = nI (155 + 5 + i) from nI_add 160 i]
      exact zq_as_o (by omega) (by decide)
    have P3 : zs_P g3 0 P := zs_Pk hP i5 fun q _ _ => by rw [d4 q (by omega), pk_un (by omega), c4 q (by omega)]
    have fr := zp_fall_run (i := i) 61 0 N (zp_sf P i f) hi (by omega) (by omega)
    rw [Nat.zero_add] at fr
    have E : zm_den 5 170 24 [.ref 137, .int (nI i), .int (nI N), .int (nI v)] [] h = (if ((zp_run N (zp_sf P i f)).2.1 i).2.1 ≤ 0 then zm_den 5 170 72 [.ref 137, .int (nI i), .int (nI N), .int (nI v)] [] h3 else zm_den 5 170 70 [.ref 137, .int (nI i), .int (nI N), .int (nI v)] [] h3) := by
      rw [zb170_24, if_neg hlt, zm_nx, zb170_30]
      simp only [J.1.1, zq_rc_o, c1', zq_bv_o, c2.1.1, zor0, c2.1.2, s1, J2.1.1, d1', d2.1.1, d2.1.2, q1, zm_nx]
    by_cases z : zp_fall i 61 0 (zp_sf P i f) ≤ N
    · have z2 : ((zp_run N (zp_sf P i f)).2.1 i).2.1 ≤ 0 := by
        by_cases w : ((zp_run N (zp_sf P i f)).2.1 i).2.1 ≤ 0
        · exact w
        · exact absurd (fr.mpr w) (by omega)
      obtain ⟨h', A', g', e1, e2, e3⟩ := ih (v + 1) h3 A3 g3 (by omega) d2 P3
      refine ⟨h', A', g', ?_, e2, e3⟩
      rw [E, if_pos z2, zb170_72, zm_nx, nI_1, zp_need, ← ef, if_pos z]
      exact e1
    · have z2 : ¬ ((zp_run N (zp_sf P i f)).2.1 i).2.1 ≤ 0 := fr.mp (by omega)
      refine ⟨h3, A3, g3, ?_, d2, P3⟩
      rw [E, if_neg z2, zb170_70, zp_need, ← ef, if_neg z]
theorem zt_need (x y : Int32) (hK : zk_K h Y) (hO : zo_K h Y) : zt_R 82 170 [.int x, .int y] h := by
  have k0 := hK.1
  obtain ⟨kV, kO, kd⟩ := hK.2.1
  obtain ⟨ad, Q, -, -, v1, v2, v3, v4⟩ := zV_row kV
  obtain ⟨A, g, a1, a2, a3, -⟩ := id hO
  have h10 : ¬ (1 : Int32) = 0 := by decide
  have c0 := qc_isfig (x := x) k0 kV
  have m0 := qm_isfig (x := x) a1 a2 v3
  have c1 := qc_within (h := h) y 60
  have m1 := fun h : zm_H => qm_in (h := h) y 0 60 (0 : Int64) (60 : Int64) (by decide) (by decide)
  rcases zw_fig_c x v3 with e | ⟨i, hi, ex, e⟩
  · refine zt_ro (r := -1) hK hO ?_ ?_
    · simp only [zc82, zB82, k0, c0, e, zm_nx, zq_rc_o, zq_bi_o, zq_bl_o, zq_bv_o, not_true_eq_false, not_false_eq_true, if_true, if_false, h10, ite_self]
    · simp only [zc170, zB170, a1.1, m0, e, zm_nx, zq_rc_o, zq_bi_o, zq_bl_o, zq_bv_o, not_true_eq_false, not_false_eq_true, if_true, if_false, h10, ite_self]
  · subst ex
    rw [e] at c0 m0
    rcases zw_in_c y (u := 60) (by decide) with f | ⟨N, hN, ey, f⟩
    · have f' : zw_in y 0 60 = 0 := f
      refine zt_ro (r := -1) hK hO ?_ ?_
      · simp only [zc82, zB82, k0, c0, c1, f', zm_nx, zq_rc_o, zq_bi_o, zq_bl_o, zq_bv_o, not_true_eq_false, not_false_eq_true, if_true, if_false, h10, ite_self]
      · simp only [zc170, zB170, a1.1, m0, m1, f', zm_nx, zq_rc_o, zq_bi_o, zq_bl_o, zq_bv_o, not_true_eq_false, not_false_eq_true, if_true, if_false, h10, ite_self]
    · subst ey
      have f' : zw_in (nI N) 0 60 = 1 := f
      obtain ⟨h1, b1, b2, b3⟩ := qc_need_l hN hi 100 0 h (by omega) hK
      have b1' : zm_den 4 82 21 [.ref 0, .int (nI i), .int (nI N), .int (0 : Int32)] [] h = _ := b1
      refine zt_mk hO (r := zp_need i N Y.1 100 0) ?_ b2 (zFr_mn b3 (by omega) (by omega)) fun O1 => ?_
      · simp only [zc82, zB82, k0, c0, c1, f', b1', zm_nx, zq_rc_o, zq_bi_o, zq_bl_o, zq_bv_o, not_true_eq_false, not_false_eq_true, if_true, if_false, h10, ite_self]
      obtain ⟨A, g, J, a2⟩ := zo_J0 O1
      have m0 := qm_isfig (x := nI i) J.1 a2 v3
      rw [e] at m0
      obtain ⟨h2, A2, g2, q1, q2, q3⟩ := qm_need_l hN kO kd hi 100 0 h1 A g (by omega) J a2
      have q1' : zm_den 5 170 24 [.ref 137, .int (nI i), .int (nI N), .int (0 : Int32)] [] h1 = _ := q1
      have R := zo_Je (P := Y.1) hK.2.2.2.2.2.1 O1 J.1 q2 q3
      refine ⟨h2, ?_, R.1, R.2⟩
      simp only [zc170, zB170, J.1.1, m0, m1, f', q1', zm_nx, zq_rc_o, zq_bi_o, zq_bl_o, zq_bv_o, not_true_eq_false, not_false_eq_true, if_true, if_false, h10, ite_self]
end ZT57
