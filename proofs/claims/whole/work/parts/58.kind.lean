def zp_lng (i w : Nat) (P : zp_T) : Nat → Nat → Int32 → Int32 → Int32 × Int32
  | 0, _, b, m => (b, m)
  | k + 1, v, b, m => if nI (zp_fall i 61 0 (zp_sf P i (zf_put (P.2.1 i) (nI w) (nI v)))) ≤ m then zp_lng i w P k (v + 1) b m else zp_lng i w P k (v + 1) (nI v) (nI (zp_fall i 61 0 (zp_sf P i (zf_put (P.2.1 i) (nI w) (nI v)))))
def zm_mN (w : Nat) : Nat := if w = 0 then 3 else if w = 1 then 99 else 40
theorem zm_most_N (w : Nat) : zm_most w = nI (zm_mN w) := by
  unfold zm_most zm_mN
  repeat' split
  all_goals rfl
theorem zf_put_ok {f : zf_T} {w v : Nat} (hf : zf_ok f) (hw : w < 3) (hv : v ≤ zm_mN w) : zf_ok (zf_put f (nI w) (nI v)) := by
  obtain ⟨k, s, l, hk, hs, hl, rfl⟩ := hf
  match w, hw, hv with
  | 0, _, hv => exact ⟨v, s, l, by have : v ≤ 3 := hv; omega, hs, hl, rfl⟩
  | 1, _, hv => exact ⟨k, v, l, hk, by have : v ≤ 99 := hv; omega, hl, rfl⟩
  | 2, _, hv => exact ⟨k, s, v, hk, hs, by have : v ≤ 40 := hv; omega, rfl⟩
  | n + 3, h, _ => exact absurd h (by omega)
section ZT58
variable {h h0 : zm_H} {Y : zy_T} {A0 g0 A g : Nat → Int32} {i : Nat}
theorem qc_long_l {w : Nat} {x3 : Int32} (hw : w < 3) (hi : i < Y.1.1) : ∀ (k v : Nat) (b m : Int32) (u : Value) (h : zm_H), v + k = zm_mN w + 1 → zk_K h Y → ∃ h', zm_den 4 112 9 [.ref 0, .int (nI i), .int (nI w), .int x3, .int b, .int m, .int (nI v), u] [] h = some (some (.int (if x3 = 0 then (zp_lng i w Y.1 k v b m).1 else (zp_lng i w Y.1 k v b m).2)), h') ∧ zk_K h' Y ∧ zm_Fr h h' 21 22 := by
  have hm : zm_mN w < 100 := by
    unfold zm_mN
    repeat' split
    all_goals decide
  have h10 : ¬ (1 : Int32) = 0 := by decide
  intro k
  induction k with
  | zero =>
    intro v b m u h hv hK
    refine ⟨h, ?_, hK, zFr_rf _ _ _⟩
    have c : nI (zm_mN w) < nI v := nI_lt (by omega) (by omega)
    rw [zb112_9, zq_tl_o hw, zm_most_N, if_pos c]
    by_cases z : x3 = 0
    · simp only [zB112, z, zp_lng, zm_nx, zq_rc_o, zq_bi_o, zq_bl_o, zq_bv_o, not_true_eq_false, not_false_eq_true, if_true, if_false, h10, ite_self]
    · simp only [zB112, z, zp_lng, zm_nx, zq_rc_o, zq_bi_o, zq_bl_o, zq_bv_o, not_true_eq_false, not_false_eq_true, if_true, if_false, h10, ite_self]
  | succ k ih =>
    intro v b m u h hv hK
    have k0 := hK.1
    obtain ⟨kV, kO, kd⟩ := hK.2.1
    obtain ⟨ad, Q, -, -, v1, v2, v3, v4⟩ := zV_row kV
    obtain ⟨ga, a, d1, d2, d3, d4, d5⟩ := zV_fig kV hi
    obtain ⟨fp, hp⟩ := hK.2.2.1.2.1
    have cp := qc_copy hp d3
    have pu := qc_put (h := zm_s h 21 (zf_c (Y.1.2.1 i))) (a := 21) (f := Y.1.2.1 i) (k := nI w) (v := nI v) zg_ss
    rw [zs_ss] at pu
    obtain ⟨h1, b1, b2, b3⟩ := qc_probe (f := zf_put (Y.1.2.1 i) (nI w) (nI v)) hK
    rw [zf_fall_sf hi] at b1
    have k1 : ∀ c, zm_g (zm_s h 21 c) 0 = .inr (6, zk_c Y.2.2.1.1 (nI Y.2.2.2.1.1) Y.2.2.1.2) := fun c => by rw [zg_sn (by decide)]; exact k0
    obtain ⟨t, et⟩ : ∃ t, t = nI (zp_fall i 61 0 (zp_sf Y.1 i (zf_put (Y.1.2.1 i) (nI w) (nI v)))) := ⟨_, rfl⟩
    rw [← et] at b1
    have c : ¬ nI (zm_mN w) < nI v := nI_nlt (by omega) (by omega)
    have E : zm_den 4 112 9 [.ref 0, .int (nI i), .int (nI w), .int x3, .int b, .int m, .int (nI v), u] [] h = (if t ≤ m then zm_den 4 112 69 [.ref 0, .int (nI i), .int (nI w), .int x3, .int b, .int m, .int (nI v), .int t] [] h1 else zm_den 4 112 61 [.ref 0, .int (nI i), .int (nI w), .int x3, .int b, .int m, .int (nI v), .int t] [] h1) := by
      rw [zb112_9, zq_tl_o hw, zm_most_N, if_neg c, zm_nx, zb112_19]
      simp only [k0, zkr2, zkr0, v1, zgr_1_0, v2, zgr_2_0, d1, zq_ql_o (show i < 5 by omega) (by decide) d2, hp, zrf_c, cp, zq_bv_o, k1, zg_ss, pu, zq_rc_o, b1, zq_bi_o, zm_nx]
    rw [zp_lng, ← et]
    by_cases z : t ≤ m
    · obtain ⟨h', e1, e2, e3⟩ := ih (v + 1) b m (.int t) h1 (by omega) b2
      refine ⟨h', ?_, e2, zFr_tr b3 e3⟩
      rw [E, if_pos z, zb112_69, zm_nx, nI_1, if_pos z]
      exact e1
    · obtain ⟨h', e1, e2, e3⟩ := ih (v + 1) (nI v) t (.int t) h1 (by omega) b2
      refine ⟨h', ?_, e2, zFr_tr b3 e3⟩
      rw [E, if_neg z, zb112_61, zm_nx, zb112_69, zm_nx, nI_1, if_neg z]
      exact e1
theorem qm_kind_l {P : zp_T} {x2 : Int32} (ho : zp_ok P) (hd : P.2.2.2.2 < 1000) (hi : i < P.1) : ∀ (k v : Nat) (b m : Int32) (u : Value) (h : zm_H) (A g : Nat → Int32), v + k = 4 → zo_J h0 h A0 g0 A g → zs_P g 0 P → ∃ h' A' g', zm_den 6 175 28 [.ref 137, .int (nI i), .int x2, .int m, .int b, .int (nI v), u] [] h = some (some (.int (if x2 = 0 then (zp_lng i 0 P k v b m).1 else (zp_lng i 0 P k v b m).2)), h') ∧ zo_J h0 h' A0 g0 A' g' ∧ zs_P g' 0 P := by
  have i5 := ho.1
  have h10 : ¬ (1 : Int32) = 0 := by decide
  intro k
  induction k with
  | zero =>
    intro v b m u h A g hv J hP
    refine ⟨h, A, g, ?_, J, hP⟩
    rw [zb175_28, if_pos (show (4 : Int32) ≤ nI v from nI_le (a := 4) (b := v) (by omega) (by omega))]
    by_cases z : x2 = 0
    · simp only [zB175, z, zp_lng, zm_nx, zq_rc_o, zq_bi_o, zq_bl_o, zq_bv_o, not_true_eq_false, not_false_eq_true, if_true, if_false, h10, ite_self]
    · simp only [zB175, z, zp_lng, zm_nx, zq_rc_o, zq_bi_o, zq_bl_o, zq_bv_o, not_true_eq_false, not_false_eq_true, if_true, if_false, h10, ite_self]
  | succ k ih =>
    intro v b m u h A g hv J hP
    obtain ⟨h1, g1, c1, c2, c3, c4⟩ := zo_Jc J hP ho.1 (t := 155) (by omega)
    have c1' : zm_call 160 [.ref 137, .int (0 : Int32), .int (155 : Int32)] h = some (none, h1) := c1
    obtain ⟨f, ef⟩ : ∃ f : zf_T, f = zf_put (P.2.1 i) (nI 0) (nI v) := ⟨_, rfl⟩
    have J2 := zo_Js (g2 := upd g1 (155 + i) (nI v)) c2 fun q _ _ => pk_un (by omega)
    have P2 : zs_P (upd g1 (155 + i) (nI v)) 155 (zp_sf P i f) := by
      refine zs_Psf c3 i5 (fun q _ _ _ _ _ => pk_un (by omega)) hi ?_ ?_ ?_
      · rw [pk_us, ef]; rfl
      · rw [pk_un (by omega), ef]; exact (c3.2.1 i hi).2.1
      · rw [pk_un (by omega), ef]; exact (c3.2.1 i hi).2.2
    have fo : zf_ok f := by
      rw [ef]
      exact zf_put_ok (ho.2.1 i hi) (by decide) (by show v ≤ 3; omega)
    have ho2 : zp_ok (zp_sf P i f) := zp_ok_sf ho fo
    obtain ⟨h3, g3, d1, d2, d4⟩ := zo_Jl (f := 155) J2 (Or.inr rfl) P2 ho2 hd hi
    have d1' : zm_call 174 [.ref 137, .int (155 : Int32), .int (nI i)] (zm_s h1 (137 + 1) (.inl (0, 186, .inl (upd g1 (155 + i) (nI v))))) = some (some (.int (nI (zp_fall i 61 0 (zp_sf P i f)))), h3) := d1
    obtain ⟨t, et⟩ : ∃ t, t = nI (zp_fall i 61 0 (zp_sf P i f)) := ⟨_, rfl⟩
    rw [← et] at d1'
    have s1 : ∀ (x : Int32) (o : va_E → zm_O), zq_as (.inl (0, 186, .inl g1)) 0 ((155 : Int32) + nI i) x o = o (.inl (0, 186, .inl (upd g1 (155 + i) x))) := fun x o => by
      rw [show (155 : Int32) + nI i = nI (155 + i) from nI_add 155 i]
      exact zq_as_o (by omega) (by decide)
    have P3 : zs_P g3 0 P := zs_Pk hP i5 fun q _ _ => by rw [d4 q (by omega), pk_un (by omega), c4 q (by omega)]
    have E : zm_den 6 175 28 [.ref 137, .int (nI i), .int x2, .int m, .int b, .int (nI v), u] [] h = (if t ≤ m then zm_den 6 175 75 [.ref 137, .int (nI i), .int x2, .int m, .int b, .int (nI v), .int t] [] h3 else zm_den 6 175 70 [.ref 137, .int (nI i), .int x2, .int m, .int b, .int (nI v), .int t] [] h3) := by
      rw [zb175_28, if_neg (show ¬ (4 : Int32) ≤ nI v from nI_ge (a := v) (b := 4) (by omega) (by decide)), zm_nx, zb175_34]
      simp only [J.1.1, zq_rc_o, c1', zq_bv_o, c2.1.1, zor0, c2.1.2, s1, J2.1.1, d1', zq_bi_o, zm_nx]
    rw [zp_lng, ← ef, ← et]
    by_cases z : t ≤ m
    · obtain ⟨h', A', g', e1, e2, e3⟩ := ih (v + 1) b m (.int t) h3 A g3 (by omega) d2 P3
      refine ⟨h', A', g', ?_, e2, e3⟩
      rw [E, if_pos z, zb175_75, zm_nx, zb175_77, if_pos z, zm_nx, zb175_90, zm_nx, zb175_91, zm_nx, nI_1, if_pos z]
      exact e1
    · obtain ⟨h', A', g', e1, e2, e3⟩ := ih (v + 1) (nI v) t (.int t) h3 A g3 (by omega) d2 P3
      refine ⟨h', A', g', ?_, e2, e3⟩
      rw [E, if_neg z, zb175_70, zm_nx, zb175_77, if_neg z, zm_nx, zb175_85, zm_nx, zb175_91, zm_nx, nI_1, if_neg z]
      exact e1
theorem qm_face_l {P : zp_T} {x2 : Int32} (ho : zp_ok P) (hd : P.2.2.2.2 < 1000) (hi : i < P.1) : ∀ (k v : Nat) (b m : Int32) (u : Value) (h : zm_H) (A g : Nat → Int32), v + k = 41 → zo_J h0 h A0 g0 A g → zs_P g 0 P → ∃ h' A' g', zm_den 6 176 28 [.ref 137, .int (nI i), .int x2, .int m, .int b, .int (nI v), u] [] h = some (some (.int (if x2 = 0 then (zp_lng i 2 P k v b m).1 else (zp_lng i 2 P k v b m).2)), h') ∧ zo_J h0 h' A0 g0 A' g' ∧ zs_P g' 0 P := by
  have i5 := ho.1
  have h10 : ¬ (1 : Int32) = 0 := by decide
  intro k
  induction k with
  | zero =>
    intro v b m u h A g hv J hP
    refine ⟨h, A, g, ?_, J, hP⟩
    rw [zb176_28, if_pos (show (40 : Int32) < nI v from nI_lt (a := 40) (b := v) (by omega) (by omega))]
    by_cases z : x2 = 0
    · simp only [zB176, z, zp_lng, zm_nx, zq_rc_o, zq_bi_o, zq_bl_o, zq_bv_o, not_true_eq_false, not_false_eq_true, if_true, if_false, h10, ite_self]
    · simp only [zB176, z, zp_lng, zm_nx, zq_rc_o, zq_bi_o, zq_bl_o, zq_bv_o, not_true_eq_false, not_false_eq_true, if_true, if_false, h10, ite_self]
  | succ k ih =>
    intro v b m u h A g hv J hP
    obtain ⟨h1, g1, c1, c2, c3, c4⟩ := zo_Jc J hP ho.1 (t := 155) (by omega)
    have c1' : zm_call 160 [.ref 137, .int (0 : Int32), .int (155 : Int32)] h = some (none, h1) := c1
    obtain ⟨f, ef⟩ : ∃ f : zf_T, f = zf_put (P.2.1 i) (nI 2) (nI v) := ⟨_, rfl⟩
    have J2 := zo_Js (g2 := upd g1 (155 + 10 + i) (nI v - 20)) c2 fun q _ _ => pk_un (by omega)
    have P2 : zs_P (upd g1 (155 + 10 + i) (nI v - 20)) 155 (zp_sf P i f) := by
      refine zs_Psf c3 i5 (fun q _ _ _ _ _ => pk_un (by omega)) hi ?_ ?_ ?_
      · rw [pk_un (by omega), ef]; exact (c3.2.1 i hi).1
      · rw [pk_un (by omega), ef]; exact (c3.2.1 i hi).2.1
      · rw [pk_us, ef]; rfl
    have fo : zf_ok f := by
      rw [ef]
      exact zf_put_ok (ho.2.1 i hi) (by decide) (by show v ≤ 40; omega)
    have ho2 : zp_ok (zp_sf P i f) := zp_ok_sf ho fo
    obtain ⟨h3, g3, d1, d2, d4⟩ := zo_Jl (f := 155) J2 (Or.inr rfl) P2 ho2 hd hi
    have d1' : zm_call 174 [.ref 137, .int (155 : Int32), .int (nI i)] (zm_s h1 (137 + 1) (.inl (0, 186, .inl (upd g1 (155 + 10 + i) (nI v - 20))))) = some (some (.int (nI (zp_fall i 61 0 (zp_sf P i f)))), h3) := d1
    obtain ⟨t, et⟩ : ∃ t, t = nI (zp_fall i 61 0 (zp_sf P i f)) := ⟨_, rfl⟩
    rw [← et] at d1'
    have s1 : ∀ (x : Int32) (o : va_E → zm_O), zq_as (.inl (0, 186, .inl g1)) 0 ((165 : Int32) + nI i) x o = o (.inl (0, 186, .inl (upd g1 (155 + 10 + i) x))) := fun x o => by
      rw [show (165 : Int32) + nI i = nI (155 + 10 + i) from nI_add 165 i]
      exact zq_as_o (by omega) (by decide)
    have P3 : zs_P g3 0 P := zs_Pk hP i5 fun q _ _ => by rw [d4 q (by omega), pk_un (by omega), c4 q (by omega)]
    have E : zm_den 6 176 28 [.ref 137, .int (nI i), .int x2, .int m, .int b, .int (nI v), u] [] h = (if t ≤ m then zm_den 6 176 79 [.ref 137, .int (nI i), .int x2, .int m, .int b, .int (nI v), .int t] [] h3 else zm_den 6 176 74 [.ref 137, .int (nI i), .int x2, .int m, .int b, .int (nI v), .int t] [] h3) := by
      rw [zb176_28, if_neg (show ¬ (40 : Int32) < nI v from nI_nlt (a := 40) (b := v) (by omega) (by decide)), zm_nx, zb176_35]
      simp only [J.1.1, zq_rc_o, c1', zq_bv_o, c2.1.1, zor0, c2.1.2, s1, J2.1.1, d1', zq_bi_o, zm_nx]
    rw [zp_lng, ← ef, ← et]
    by_cases z : t ≤ m
    · obtain ⟨h', A', g', e1, e2, e3⟩ := ih (v + 1) b m (.int t) h3 A g3 (by omega) d2 P3
      refine ⟨h', A', g', ?_, e2, e3⟩
      rw [E, if_pos z, zb176_79, zm_nx, zb176_81, if_pos z, zm_nx, zb176_94, zm_nx, zb176_95, zm_nx, nI_1, if_pos z]
      exact e1
    · obtain ⟨h', A', g', e1, e2, e3⟩ := ih (v + 1) (nI v) t (.int t) h3 A g3 (by omega) d2 P3
      refine ⟨h', A', g', ?_, e2, e3⟩
      rw [E, if_neg z, zb176_74, zm_nx, zb176_81, if_neg z, zm_nx, zb176_89, zm_nx, zb176_95, zm_nx, nI_1, if_neg z]
      exact e1
theorem zt_kind (x y : Int32) (hK : zk_K h Y) (hO : zo_K h Y) : zt_R 86 175 [.int x, .int y] h := by
  have k0 := hK.1
  obtain ⟨kV, kO, kd⟩ := hK.2.1
  obtain ⟨ad, Q, -, -, v1, v2, v3, v4⟩ := zV_row kV
  obtain ⟨A, g, a1, a2, a3, -⟩ := id hO
  have h10 : ¬ (1 : Int32) = 0 := by decide
  have c0 := qc_isfig (x := x) k0 kV
  have m0 := qm_isfig (x := x) a1 a2 v3
  have c1 := qc_within (h := h) y 1
  have m1 := fun h : zm_H => qm_in (h := h) y 0 1 (0 : Int64) (1 : Int64) (by decide) (by decide)
  rcases zw_fig_c x v3 with e | ⟨i, hi, ex, e⟩
  · refine zt_ro (r := -1) hK hO ?_ ?_
    · simp only [zc86, zB86, k0, c0, e, zm_nx, zq_rc_o, zq_bi_o, zq_bl_o, zq_bv_o, not_true_eq_false, not_false_eq_true, if_true, if_false, h10, ite_self]
    · simp only [zc175, zB175, a1.1, m0, e, zm_nx, zq_rc_o, zq_bi_o, zq_bl_o, zq_bv_o, not_true_eq_false, not_false_eq_true, if_true, if_false, h10, ite_self]
  · subst ex
    rw [e] at c0 m0
    rcases zw_in_c y (u := 1) (by decide) with f | ⟨N, hN, ey, f⟩
    · have f' : zw_in y 0 1 = 0 := f
      refine zt_ro (r := -1) hK hO ?_ ?_
      · simp only [zc86, zB86, k0, c0, c1, f', zm_nx, zq_rc_o, zq_bi_o, zq_bl_o, zq_bv_o, not_true_eq_false, not_false_eq_true, if_true, if_false, h10, ite_self]
      · simp only [zc175, zB175, a1.1, m0, m1, f', zm_nx, zq_rc_o, zq_bi_o, zq_bl_o, zq_bv_o, not_true_eq_false, not_false_eq_true, if_true, if_false, h10, ite_self]
    · have f' : zw_in y 0 1 = 1 := f
      obtain ⟨h1, b1, b2, b3⟩ := qc_long_l (w := 0) (x3 := y) (by decide) hi 4 0 0 (-1) .null h rfl hK
      have b1' : zm_call 112 [.ref 0, .int (nI i), .int (0 : Int32), .int y] h = some (some (.int (if y = 0 then (zp_lng i 0 Y.1 4 0 0 (-1)).1 else (zp_lng i 0 Y.1 4 0 0 (-1)).2)), h1) := by
        rw [zc112, zm_nx, zb112_0, zm_nx]
        exact b1
      refine zt_mk hO (r := if y = 0 then (zp_lng i 0 Y.1 4 0 0 (-1)).1 else (zp_lng i 0 Y.1 4 0 0 (-1)).2) ?_ b2 (zFr_mn b3 (by omega) (by omega)) fun O1 => ?_
      · rw [zc86, zm_nx, zb86_0]
        simp only [zb86_8, zb86_18, k0, c0, c1, f', b1', zm_nx, zq_rc_o, zq_bi_o, zq_bl_o, zq_bv_o, not_true_eq_false, not_false_eq_true, if_true, if_false, h10, ite_self]
      obtain ⟨A, g, J, a2⟩ := zo_J0 O1
      have m0 := qm_isfig (x := nI i) J.1 a2 v3
      rw [e] at m0
      obtain ⟨h2, A2, g2, q1, q2, q3⟩ := qm_kind_l (x2 := y) kO kd hi 4 0 0 (-1) .null h1 A g (by omega) J a2
      have R := zo_Je (P := Y.1) hK.2.2.2.2.2.1 O1 J.1 q2 q3
      refine ⟨h2, ?_, R.1, R.2⟩
      rw [zc175, zm_nx, zb175_0]
      simp only [J.1.1, zq_rc_o, m0, zq_bi_o, h10, if_false, zm_nx]
      rw [zb175_8]
      simp only [m1, f', zq_bi_o, h10, not_false_eq_true, if_true, zm_nx]
      rw [zb175_20, zm_nx]
      exact q1
theorem zt_face (x y : Int32) (hK : zk_K h Y) (hO : zo_K h Y) : zt_R 87 176 [.int x, .int y] h := by
  have k0 := hK.1
  obtain ⟨kV, kO, kd⟩ := hK.2.1
  obtain ⟨ad, Q, -, -, v1, v2, v3, v4⟩ := zV_row kV
  obtain ⟨A, g, a1, a2, a3, -⟩ := id hO
  have h10 : ¬ (1 : Int32) = 0 := by decide
  have c0 := qc_isfig (x := x) k0 kV
  have m0 := qm_isfig (x := x) a1 a2 v3
  have c1 := qc_within (h := h) y 1
  have m1 := fun h : zm_H => qm_in (h := h) y 0 1 (0 : Int64) (1 : Int64) (by decide) (by decide)
  rcases zw_fig_c x v3 with e | ⟨i, hi, ex, e⟩
  · refine zt_ro (r := -1) hK hO ?_ ?_
    · simp only [zc87, zB87, k0, c0, e, zm_nx, zq_rc_o, zq_bi_o, zq_bl_o, zq_bv_o, not_true_eq_false, not_false_eq_true, if_true, if_false, h10, ite_self]
    · simp only [zc176, zB176, a1.1, m0, e, zm_nx, zq_rc_o, zq_bi_o, zq_bl_o, zq_bv_o, not_true_eq_false, not_false_eq_true, if_true, if_false, h10, ite_self]
  · subst ex
    rw [e] at c0 m0
    rcases zw_in_c y (u := 1) (by decide) with f | ⟨N, hN, ey, f⟩
    · have f' : zw_in y 0 1 = 0 := f
      refine zt_ro (r := -1) hK hO ?_ ?_
      · simp only [zc87, zB87, k0, c0, c1, f', zm_nx, zq_rc_o, zq_bi_o, zq_bl_o, zq_bv_o, not_true_eq_false, not_false_eq_true, if_true, if_false, h10, ite_self]
      · simp only [zc176, zB176, a1.1, m0, m1, f', zm_nx, zq_rc_o, zq_bi_o, zq_bl_o, zq_bv_o, not_true_eq_false, not_false_eq_true, if_true, if_false, h10, ite_self]
    · have f' : zw_in y 0 1 = 1 := f
      obtain ⟨h1, b1, b2, b3⟩ := qc_long_l (w := 2) (x3 := y) (by decide) hi 41 0 0 (-1) .null h rfl hK
      have b1' : zm_call 112 [.ref 0, .int (nI i), .int (2 : Int32), .int y] h = some (some (.int (if y = 0 then (zp_lng i 2 Y.1 41 0 0 (-1)).1 else (zp_lng i 2 Y.1 41 0 0 (-1)).2)), h1) := by
        rw [zc112, zm_nx, zb112_0, zm_nx]
        exact b1
      refine zt_mk hO (r := if y = 0 then (zp_lng i 2 Y.1 41 0 0 (-1)).1 else (zp_lng i 2 Y.1 41 0 0 (-1)).2) ?_ b2 (zFr_mn b3 (by omega) (by omega)) fun O1 => ?_
      · rw [zc87, zm_nx, zb87_0]
        simp only [zb87_8, zb87_18, k0, c0, c1, f', b1', zm_nx, zq_rc_o, zq_bi_o, zq_bl_o, zq_bv_o, not_true_eq_false, not_false_eq_true, if_true, if_false, h10, ite_self]
      obtain ⟨A, g, J, a2⟩ := zo_J0 O1
      have m0 := qm_isfig (x := nI i) J.1 a2 v3
      rw [e] at m0
      obtain ⟨h2, A2, g2, q1, q2, q3⟩ := qm_face_l (x2 := y) kO kd hi 41 0 0 (-1) .null h1 A g (by omega) J a2
      have R := zo_Je (P := Y.1) hK.2.2.2.2.2.1 O1 J.1 q2 q3
      refine ⟨h2, ?_, R.1, R.2⟩
      rw [zc176, zm_nx, zb176_0]
      simp only [J.1.1, zq_rc_o, m0, zq_bi_o, h10, if_false, zm_nx]
      rw [zb176_8]
      simp only [m1, f', zq_bi_o, h10, not_false_eq_true, if_true, zm_nx]
      rw [zb176_20, zm_nx]
      exact q1
end ZT58
