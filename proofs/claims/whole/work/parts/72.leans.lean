def zp_ln (s : zs_T) (i : Nat) (P : zp_T) : Nat → Nat → Nat → Int32 → Nat × Int32
  | 0, _, c, f => (c, f)
  | k + 1, v, c, f => if zp_fit s 31 0 (zp_sf P i (zf_put (P.2.1 i) (nI 2) (nI v))) = true then zp_ln s i P k (v + 1) (c + 1) (if c = 0 then nI v else f) else zp_ln s i P k (v + 1) c f
section ZT72
variable {h h0 : zm_H} {Y : zy_T} {A0 g0 A g : Nat → Int32} {P Q : zp_T} {s : zs_T} {sa : Nat → Int32} {i : Nat}
theorem qc_ln_l {x2 : Int32} (hi : i < Y.1.1) : ∀ (k v c : Nat) (f : Int32) (h : zm_H), v + k = 41 → c ≤ v → (c = 0 ↔ f = -4) → zk_K h Y → ∃ h', zm_den 6 95 27 [.ref 0, .int (nI i), .int x2, .int (nI c), .int f, .int (nI v)] [] h = some (some (.int (if x2 = 0 then nI (zp_ln Y.2.2.2.1 i Y.1 k v c f).1 else (zp_ln Y.2.2.2.1 i Y.1 k v c f).2)), h') ∧ zk_K h' Y ∧ zm_Fr h h' 11 21 := by
  have h10 : ¬ (1 : Int32) = 0 := by decide
  intro k
  induction k with
  | zero =>
    intro v c f h hv hc hf hK
    refine ⟨h, ?_, hK, zFr_rf _ _ _⟩
    rw [zb95_27, if_pos (show (40 : Int32) < nI v from nI_lt (a := 40) (by omega) (by omega)), zm_nx, zb95_65]
    by_cases z : x2 = 0
    · rw [if_neg (not_not_intro z), if_pos z, zm_nx, zb95_69, zm_nx, zb95_75]
      rfl
    · rw [if_pos z, if_neg z, zm_nx, zb95_73, zm_nx, zb95_75]
      rfl
  | succ k ih =>
    intro v c f h hv hc hf hK
    obtain ⟨h1, e1, e2, e3⟩ := qc_fit (w := 2) (v := v) hi hK
    have e1' : zm_call 117 [.ref 0, .int (nI i), .int (2 : Int32), .int (nI v)] h = _ := e1
    rw [zb95_27, if_neg (show ¬ (40 : Int32) < nI v from nI_nlt (a := 40) (by omega) (by decide)), zm_nx, zb95_34]
    simp only [hK.1, zq_rc_o, e1', zq_bi_o, zm_nx]
    unfold zp_ln
    cases hb : zp_fit Y.2.2.2.1 31 0 (zp_sf Y.1 i (zf_put (Y.1.2.1 i) (nI 2) (nI v))) with
    | false =>
      obtain ⟨h', d1, d2, d3⟩ := ih (v + 1) c f h1 (by omega) (by omega) hf e2
      refine ⟨h', ?_, d2, zFr_tr e3 d3⟩
      simp only [if_neg (show ¬ (false = true) by decide)]
      rw [if_pos (by decide), zb95_59, zm_nx, nI_1]
      exact d1
    | true =>
      simp only [if_true]
      by_cases z : c = 0
      · obtain ⟨h', d1, d2, d3⟩ := ih (v + 1) (c + 1) (nI v) h1 (by omega) (by omega) ⟨fun q => absurd q (by omega), fun q => absurd q (nI_ne4 (by omega))⟩ e2
        refine ⟨h', ?_, d2, zFr_tr e3 d3⟩
        simp only [if_pos z]
        rw [if_neg (by decide), zb95_45, if_neg (not_not_intro (hf.mp z)), zm_nx, zb95_55, zm_nx, zb95_59, zm_nx, nI_1, nI_1]
        exact d1
      · obtain ⟨h', d1, d2, d3⟩ := ih (v + 1) (c + 1) f h1 (by omega) (by omega) ⟨fun q => absurd q (by omega), fun q => absurd (hf.mpr q) z⟩ e2
        refine ⟨h', ?_, d2, zFr_tr e3 d3⟩
        simp only [if_neg z]
        rw [if_neg (by decide), zb95_45, if_pos (fun q => z (hf.mpr q)), zm_nx, zb95_59, zm_nx, nI_1, nI_1]
        exact d1
theorem qm_ln_l {x2 : Int32} (hi : i < P.1) (hA : A0 19 = nI s.1) (hm : s.1 ≤ 6) (h144 : zm_g h0 144 = .inl (0, 12, .inl sa)) (hs : ∀ j, j < s.1 → sa (2 * j) = s.2.1 j ∧ sa (2 * j + 1) = zx_sd (s.2.2 j)) (ho : zp_ok P) (hd : P.2.2.2.2 < 1000) : ∀ (k v c : Nat) (fi : Int32) (u : Value) (h : zm_H) (g dd : Nat → Int32) (f : zf_T), v + k = 41 → c ≤ v → zo_J h0 h A0 g0 A g → zs_P g 0 (zp_sf P i f) → zm_g h 145 = .inl (0, 124, .inl dd) → zf_put f (nI 2) (P.2.1 i).2.2 = P.2.1 i → ∃ h' g', zm_den 5 187 40 [.ref 137, .int (nI i), .int x2, .int ((P.2.1 i).2.2 - 20), .int (nI c), .int fi, .int (nI v), u] [] h = some (some (.int (if x2 = 0 then nI (zp_ln s i P k v c fi).1 else (zp_ln s i P k v c fi).2)), h') ∧ zo_J h0 h' A0 g0 A g' ∧ zs_P g' 0 P := by
  have h10 : ¬ (1 : Int32) = 0 := by decide
  have i5 := ho.1
  have sI : ∀ (g : Nat → Int32) (x : Int32) (o : va_E → zm_O), zq_as (.inl (0, 186, .inl g)) 0 ((10 : Int32) + nI i) x o = o (.inl (0, 186, .inl (upd g (0 + 10 + i) x))) := fun g x o => by
    rw [show (10 : Int32) + nI i = nI (0 + 10 + i) from by rw [Nat.zero_add]; exact nI_add 10 i]
    exact zq_as_o (by omega) (by decide)
  intro k
  induction k with
  | zero =>
    intro v c fi u h g dd f hv hc J hP hdd hf
    have J2 := zo_Js (g2 := upd g (0 + 10 + i) ((P.2.1 i).2.2 - 20)) J fun q _ _ => pk_un (by omega)
    refine ⟨_, _, ?_, J2, ?_⟩
    · rw [zb187_40, if_pos (show (40 : Int32) < nI v from nI_lt (a := 40) (by omega) (by omega)), zm_nx, zb187_108]
      simp only [J.1.1, zor0, J.1.2, sI]
      by_cases z : x2 = 0
      · rw [if_neg (not_not_intro z), if_pos z, zm_nx, zb187_122, zm_nx, zb187_129]
        rfl
      · rw [if_pos z, if_neg z, zm_nx, zb187_127, zm_nx, zb187_129]
        rfl
    · have hi' : i < (zp_sf P i f).1 := hi
      have ff : (zp_sf P i f).2.1 i = f := if_pos rfl
      have src := hP.2.1 i hi'
      rw [ff] at src
      have r : zs_P (upd g (0 + 10 + i) ((P.2.1 i).2.2 - 20)) 0 (zp_sf (zp_sf P i f) i (zf_put f (nI 2) (P.2.1 i).2.2)) := by
        refine zs_Psf hP i5 (fun q _ _ _ _ _ => pk_un (by omega)) hi' ?_ ?_ ?_
        · rw [pk_un (by omega)]; exact src.1
        · rw [pk_un (by omega)]; exact src.2.1
        · rw [pk_us]; rfl
      rw [hf, zp_sf_sf, zp_sf_self] at r
      exact r
  | succ k ih =>
    intro v c fi u h g dd f hv hc J hP hdd hf
    have J2 := zo_Js (g2 := upd g (0 + 10 + i) (nI v - 20)) J fun q _ _ => pk_un (by omega)
    have hi' : i < (zp_sf P i f).1 := hi
    have ff : (zp_sf P i f).2.1 i = f := if_pos rfl
    have src := hP.2.1 i hi'
    rw [ff] at src
    have e0 : zf_put (P.2.1 i) (nI 2) (nI v) = zf_put f (nI 2) (nI v) := by rw [← hf]; rfl
    have P2 : zs_P (upd g (0 + 10 + i) (nI v - 20)) 0 (zp_sf P i (zf_put (P.2.1 i) (nI 2) (nI v))) := by
      have r : zs_P (upd g (0 + 10 + i) (nI v - 20)) 0 (zp_sf (zp_sf P i f) i (zf_put f (nI 2) (nI v))) := by
        refine zs_Psf hP i5 (fun q _ _ _ _ _ => pk_un (by omega)) hi' ?_ ?_ ?_
        · rw [pk_un (by omega)]; exact src.1
        · rw [pk_un (by omega)]; exact src.2.1
        · rw [pk_us]; rfl
      rw [zp_sf_sf] at r
      rw [e0]
      exact r
    have ho2 : zp_ok (zp_sf P i (zf_put (P.2.1 i) (nI 2) (nI v))) := zp_ok_sf ho (zf_put_ok (ho.2.1 i hi) (by decide) (by show v ≤ 40; omega))
    obtain ⟨h3, g3, dd3, e1, e2, e3, e4, e5, e6⟩ := qm_asn (row := 0) (by decide) hA hm h144 hs ho2 hd J2 P2 ((zg_sn (by omega)).trans hdd)
    have P3 : zs_P g3 0 (zp_sf P i (zf_put (P.2.1 i) (nI 2) (nI v))) := zs_Pk P2 i5 fun q _ _ => e6 q (by omega)
    have IH := fun c' fi' u' hc' => ih (v + 1) c' fi' u' h3 g3 dd3 (zf_put (P.2.1 i) (nI 2) (nI v)) (by omega) hc' e2 P3 e3 (by rfl)
    unfold zp_ln
    obtain ⟨b, hb⟩ : ∃ b, b = zp_fit s 31 0 (zp_sf P i (zf_put (P.2.1 i) (nI 2) (nI v))) := ⟨_, rfl⟩
    have e1' : zm_call 183 [.ref 137, .int (0 : Int32)] (zm_s h (137 + 1) (.inl (0, 186, .inl (upd g (0 + 10 + i) (nI v - 20))))) = some (some (.int (zx_b b)), h3) := by rw [hb]; exact e1
    rw [← hb]
    rw [zb187_40, if_neg (show ¬ (40 : Int32) < nI v from nI_nlt (a := 40) (by omega) (by decide)), zm_nx, zb187_47]
    simp only [J.1.1, zor0, J.1.2, sI, J2.1.1, zq_rc_o, e1', zq_bi_o, zm_nx]
    cases b with
    | false =>
      obtain ⟨h', g', d1, d2, d3⟩ := IH c fi (.int (zx_b false)) (by omega)
      refine ⟨h', g', ?_, d2, d3⟩
      simp only [if_neg (show ¬ (false = true) by decide)]
      rw [if_pos (by decide), zb187_83, zm_nx, zb187_85, if_pos (by decide), zm_nx, zb187_98, zm_nx, zb187_99, zm_nx, nI_1, Int32.add_zero]
      exact d1
    | true =>
      simp only [if_true]
      by_cases z : c = 0
      · obtain ⟨h', g', d1, d2, d3⟩ := IH (c + 1) (nI v) (.int (zx_b true)) (by omega)
        refine ⟨h', g', ?_, d2, d3⟩
        simp only [if_pos z]
        rw [if_neg (by decide), zb187_73, if_neg (not_not_intro (show nI c = 0 by rw [z]; rfl)), zm_nx, zb187_78, zm_nx, zb187_85, if_neg (by decide), zm_nx, zb187_94, zm_nx, zb187_99, zm_nx, nI_1, nI_1]
        exact d1
      · obtain ⟨h', g', d1, d2, d3⟩ := IH (c + 1) fi (.int (zx_b true)) (by omega)
        refine ⟨h', g', ?_, d2, d3⟩
        simp only [if_neg z]
        rw [if_neg (by decide), zb187_73, if_pos (nI_ne0 (by omega) (by omega)), zm_nx, zb187_83, zm_nx, zb187_85, if_neg (by decide), zm_nx, zb187_94, zm_nx, zb187_99, zm_nx, nI_1, nI_1]
        exact d1
theorem zt_leans (x y : Int32) (hK : zk_K h Y) (hO : zo_K h Y) : zt_R 95 187 [.int x, .int y] h := by
  have k0 := hK.1
  obtain ⟨kV, kO, kd⟩ := hK.2.1
  obtain ⟨ad, Q, -, -, v1, v2, v3, v4⟩ := zV_row kV
  obtain ⟨A, g, a1, a2, a3, -⟩ := id hO
  have h10 : ¬ (1 : Int32) = 0 := by decide
  have c0 := qc_isfig (x := x) k0 kV
  have m0 := qm_isfig (x := x) a1 a2 v3
  have c1 := qc_within (h := h) y 1
  have m1 := fun h : zm_H => qm_in (h := h) y 0 1 (0 : Int64) (1 : Int64) (by decide) (by decide)
  rcases zw_fig_c x v3 with e | ⟨i, hi, ex, e⟩
  · refine zt_ro (r := -1) hK hO ?_ ?_
    · simp only [zc95, zB95, k0, c0, e, zm_nx, zq_rc_o, zq_bi_o, zq_bl_o, zq_bv_o, not_true_eq_false, not_false_eq_true, if_true, if_false, h10, ite_self]
    · simp only [zc187, zB187, a1.1, m0, e, zm_nx, zq_rc_o, zq_bi_o, zq_bl_o, zq_bv_o, not_true_eq_false, not_false_eq_true, if_true, if_false, h10, ite_self]
  · subst ex
    rw [e] at c0 m0
    rcases zw_in_c y (u := 1) (by decide) with f | ⟨N, hN, ey, f⟩
    · have f' : zw_in y 0 1 = 0 := f
      refine zt_ro (r := -1) hK hO ?_ ?_
      · simp only [zc95, zB95, k0, c0, c1, f', zm_nx, zq_rc_o, zq_bi_o, zq_bl_o, zq_bv_o, not_true_eq_false, not_false_eq_true, if_true, if_false, h10, ite_self]
      · simp only [zc187, zB187, a1.1, m0, m1, f', zm_nx, zq_rc_o, zq_bi_o, zq_bl_o, zq_bv_o, not_true_eq_false, not_false_eq_true, if_true, if_false, h10, ite_self]
    · have f' : zw_in y 0 1 = 1 := f
      obtain ⟨h1, b1, b2, b3⟩ := qc_ln_l (x2 := y) hi 41 0 0 (-4) h (by omega) (by omega) (by decide) hK
      refine zt_mk hO (r := if y = 0 then nI (zp_ln Y.2.2.2.1 i Y.1 41 0 0 (-4)).1 else (zp_ln Y.2.2.2.1 i Y.1 41 0 0 (-4)).2) ?_ b2 (zFr_mn b3 (by omega) (by omega)) fun O1 => ?_
      · rw [zc95, zm_nx, zb95_0]
        simp only [k0, zq_rc_o, c0, zq_bi_o, h10, if_false, zm_nx]
        rw [zb95_8]
        simp only [c1, f', zq_bi_o, h10, not_false_eq_true, if_true, zm_nx]
        rw [zb95_18, zm_nx]
        exact b1
      obtain ⟨A, g, sa, J, a2, hA, hm, h144, hs⟩ := zo_Js0 O1 hK
      have m0 := qm_isfig (x := nI i) J.1 a2 v3
      rw [e] at m0
      obtain ⟨dd, hdd⟩ := J.2.2.2.2.1
      obtain ⟨h2, g2, q1, q2, q3⟩ := qm_ln_l (x2 := y) hi hA hm h144 hs kO kd 41 0 0 (-4) .null h1 g dd (Y.1.2.1 i) (by omega) (by omega) J (by rw [zp_sf_self]; exact a2) hdd rfl
      have R := zo_Je (P := Y.1) hK.2.2.2.2.2.1 O1 J.1 q2 q3
      refine ⟨h2, ?_, R.1, R.2⟩
      have l1 : ∀ o : Int32 → zm_O, zq_al (.inl (0, 186, .inl g)) 0 ((10 : Int32) + nI i) o = o ((Y.1.2.1 i).2.2 - 20) := fun o => zy_al (j := 0 + 10 + i) (by rw [Nat.zero_add]; exact nI_add 10 i) (by omega) (by decide) (a2.2.1 i hi).2.2
      rw [zc187, zm_nx, zb187_0]
      simp only [J.1.1, zq_rc_o, m0, zq_bi_o, h10, if_false, zm_nx]
      rw [zb187_8]
      simp only [m1, f', zq_bi_o, h10, not_false_eq_true, if_true, zm_nx]
      rw [zb187_20]
      simp only [J.1.1, zor0, J.1.2, l1, zm_nx]
      exact q1
end ZT72
