section ZT47
variable {h h' : zm_H} {Y : zy_T} {P : zp_T} {p : Nat}
theorem zV_sw (hV : zp_V h p P) : ∃ g, zm_g h (p + 8) = .inl (0, 7, .inl g) ∧ (∀ j, j < 7 → g j = P.2.2.1 j) ∧ ∀ h' : zm_H, (∀ b, p ≤ b → b < p + 10 → b ≠ p + 8 → zm_g h' b = zm_g h b) → ∀ w, zm_g h' (p + 8) = .inl (0, 7, .inl w) → zp_V h' p (P.1, P.2.1, w, P.2.2.2) := by
  obtain ⟨ad, Q, h1, h2⟩ := hV
  obtain ⟨d1, d2, c0, ⟨g, d3, d4⟩, d5⟩ := id h1
  refine ⟨g, d3, fun j hj => (d4 j hj).trans (h2.2.2.1 j hj).1, fun h' hk w hw => ⟨ad, (Q.1, Q.2.1, w, Q.2.2.2), ⟨d1, by rw [hk p (by omega) (by omega) (by omega)]; exact d2, zr_keep c0 fun b b1 b2 => hk b (by omega) (by omega) (by omega), ⟨w, hw, fun _ _ => rfl⟩, za_keep d5 (hk _ (by omega) (by omega) (by omega))⟩, h2.1, h2.2.1, fun d hd => ⟨rfl, (h2.2.2.1 d hd).2⟩, h2.2.2.2⟩⟩
theorem zV_sd (hV : zp_V h p P) : ∃ g, zm_g h (p + 9) = .inl (0, 7, .inl g) ∧ (∀ j, j < 7 → g j = P.2.2.2.1 j) ∧ ∀ h' : zm_H, (∀ b, p ≤ b → b < p + 10 → b ≠ p + 9 → zm_g h' b = zm_g h b) → ∀ w, zm_g h' (p + 9) = .inl (0, 7, .inl w) → zp_V h' p (P.1, P.2.1, P.2.2.1, w, P.2.2.2.2) := by
  obtain ⟨ad, Q, h1, h2⟩ := hV
  obtain ⟨d1, d2, c0, d5, ⟨g, d3, d4⟩⟩ := id h1
  refine ⟨g, d3, fun j hj => (d4 j hj).trans (h2.2.2.1 j hj).2, fun h' hk w hw => ⟨ad, (Q.1, Q.2.1, Q.2.2.1, w, Q.2.2.2.2), ⟨d1, by rw [hk p (by omega) (by omega) (by omega)]; exact d2, zr_keep c0 fun b b1 b2 => hk b (by omega) (by omega) (by omega), za_keep d5 (hk _ (by omega) (by omega) (by omega)), ⟨w, hw, fun _ _ => rfl⟩⟩, h2.1, h2.2.1, fun d hd => ⟨(h2.2.2.1 d hd).1, rfl⟩, h2.2.2.2⟩⟩
theorem zs_Psw {g g' w : Nat → Int32} (hP : zs_P g p P) (hn : P.1 ≤ 5) (hg : ∀ q, p ≤ q → q < p + 31 → (q < p + 16 ∨ p + 23 ≤ q) → g' q = g q) (hw : ∀ d, d < 7 → g' (p + 16 + d) = w d - 1) : zs_P g' p (P.1, P.2.1, w, P.2.2.2) := by
  refine ⟨by rw [hg _ (by omega) (by omega) (by omega)]; exact hP.1, fun j hj => ?_, fun d hd => ⟨hw d hd, by rw [hg _ (by omega) (by omega) (by omega)]; exact (hP.2.2.1 d hd).2⟩, by rw [hg _ (by omega) (by omega) (by omega)]; exact hP.2.2.2⟩
  have hj' : j < P.1 := hj
  rw [hg _ (by omega) (by omega) (by omega), hg _ (by omega) (by omega) (by omega), hg _ (by omega) (by omega) (by omega)]
  exact hP.2.1 j hj'
theorem zs_Psd {g g' w : Nat → Int32} (hP : zs_P g p P) (hn : P.1 ≤ 5) (hg : ∀ q, p ≤ q → q < p + 31 → (q < p + 23 ∨ p + 30 ≤ q) → g' q = g q) (hw : ∀ d, d < 7 → g' (p + 23 + d) = w d - 4) : zs_P g' p (P.1, P.2.1, P.2.2.1, w, P.2.2.2.2) := by
  refine ⟨by rw [hg _ (by omega) (by omega) (by omega)]; exact hP.1, fun j hj => ?_, fun d hd => ⟨by rw [hg _ (by omega) (by omega) (by omega)]; exact (hP.2.2.1 d hd).1, hw d hd⟩, by rw [hg _ (by omega) (by omega) (by omega)]; exact hP.2.2.2⟩
  have hj' : j < P.1 := hj
  rw [hg _ (by omega) (by omega) (by omega), hg _ (by omega) (by omega) (by omega), hg _ (by omega) (by omega) (by omega)]
  exact hP.2.1 j hj'
theorem zt_set (x y z : Int32) (hK : zk_K h Y) (hO : zo_K h Y) : zt_R 70 152 [.int x, .int y, .int z] h := by
  have k0 := hK.1
  obtain ⟨kV, kO, kd⟩ := hK.2.1
  obtain ⟨ad, Q, -, -, v1, v2, v3, v4⟩ := zV_row kV
  obtain ⟨A, g, a1, a2, a3, -⟩ := id hO
  have h10 : ¬ (1 : Int32) = 0 := by decide
  have c0 := qc_within (h := h) x 6
  have m0 := fun h : zm_H => qm_in (h := h) x 0 6 (0 : Int64) (6 : Int64) (by decide) (by decide)
  have c1 := qc_within (h := h) y 1
  have m1 := fun h : zm_H => qm_in (h := h) y 0 1 (0 : Int64) (1 : Int64) (by decide) (by decide)
  have c2 := fun u => qc_within (h := h) z u
  have m2 := fun h : zm_H => qm_in (h := h) z 0 9 (0 : Int64) (9 : Int64) (by decide) (by decide)
  have m3 := fun h : zm_H => qm_in (h := h) z 0 8 (0 : Int64) (8 : Int64) (by decide) (by decide)
  have p0 := fun (y v less : Int32) => qm_puts0 (h := h) (x := 0) (v := v) (less := less) (y := y) rfl
  rcases zw_in_c x (u := 6) (by decide) with e | ⟨d, hd, ex, e⟩
  · have e' : zw_in x 0 6 = 0 := e
    refine zt_ro (r := -1) hK hO ?_ ?_
    · simp only [zc70, zB70, c0, e', zm_nx, zq_rc_o, zq_bi_o, zq_bl_o, zq_bv_o, not_true_eq_false, not_false_eq_true, if_true, if_false, h10, ite_self]
    · simp only [zc152, zB152, a1.1, m0, e', p0, zm_nx, zq_rc_o, zq_bi_o, zq_bl_o, zq_bv_o, not_true_eq_false, not_false_eq_true, if_true, if_false, h10, ite_self]
  · subst ex
    have e' : zw_in (nI d) 0 6 = 1 := e
    rcases zw_in_c y (u := 1) (by decide) with f | ⟨w, hw, ey, f⟩
    · have f' : zw_in y 0 1 = 0 := f
      refine zt_ro (r := -1) hK hO ?_ ?_
      · simp only [zc70, zB70, c0, e', c1, f', zm_nx, zq_rc_o, zq_bi_o, zq_bl_o, zq_bv_o, not_true_eq_false, not_false_eq_true, if_true, if_false, h10, ite_self]
      · simp only [zc152, zB152, a1.1, m0, e', m1, f', p0, zm_nx, zq_rc_o, zq_bi_o, zq_bl_o, zq_bv_o, not_true_eq_false, not_false_eq_true, if_true, if_false, h10, ite_self]
    · subst ey
      have f' : zw_in (nI w) 0 1 = 1 := f
      match w, hw, f' with
      | 0, _, f' =>
        rcases zw_in_c z (u := 9) (by decide) with q | ⟨v, hv, ez, q⟩
        · have q' : zw_in z 0 9 = 0 := q
          refine zt_ro (r := -1) hK hO ?_ ?_
          · simp only [zc70, zB70, c0, e', c1, f', c2, q', eq_true (show nI 0 = (0 : Int32) by decide), eq_false (show ¬ nI 0 = (1 : Int32) by decide), zm_nx, zq_rc_o, zq_bi_o, zq_bl_o, zq_bv_o, not_true_eq_false, not_false_eq_true, if_true, if_false, h10, ite_self]
          · simp only [zc152, zB152, a1.1, m0, e', m1, f', m2, m3, q', p0, eq_true (show nI 0 = (0 : Int32) by decide), eq_false (show ¬ nI 0 = (1 : Int32) by decide), zm_nx, zq_rc_o, zq_bi_o, zq_bl_o, zq_bv_o, not_true_eq_false, not_false_eq_true, if_true, if_false, h10, ite_self]
        · subst ez
          have q' : zw_in (nI v) 0 9 = 1 := q
          obtain ⟨gc, d1, d2, d3⟩ := zV_sw kV
          have V1 := d3 (zm_s h (1 + 8) (.inl (0, 7, .inl (upd gc d (nI v))))) (fun b _ _ hb => zg_sn hb) _ zg_ss
          have F1 : zm_Fr h (zm_s h (1 + 8) (.inl (0, 7, .inl (upd gc d (nI v))))) 1 11 := zFr_s (by omega) (by omega)
          have O1 : zp_ok (Y.1.1, Y.1.2.1, upd gc d (nI v), Y.1.2.2.2) := by
            refine ⟨kO.1, kO.2.1, fun j hj => ?_⟩
            have ok1 : ∃ a, a < 10 ∧ upd gc d (nI v) j = nI a := by
              by_cases z : j = d
              · subst z
                exact ⟨v, by omega, pk_us⟩
              · rw [pk_un z, d2 j hj]
                exact (kO.2.2 j hj).1
            exact ⟨ok1, (kO.2.2 j hj).2⟩
          refine zt_now hK hO (r := gc d) ?_ V1 O1 kd F1 fun A g a1 a2 => ?_
          · simp only [zc70, zB70, c0, e', c1, f', c2, q', eq_true (show nI 0 = (0 : Int32) by decide), eq_false (show ¬ nI 0 = (1 : Int32) by decide), k0, zkr0, v1, zgr_1_1, d1, zq_al_o (show d < 7 by omega) (show (7 : Nat) < 2 ^ 31 by decide), zq_as_o (show d < 7 by omega) (show (7 : Nat) < 2 ^ 31 by decide), zm_nx, zq_rc_o, zq_bi_o, zq_bl_o, zq_bv_o, not_true_eq_false, not_false_eq_true, if_true, if_false, h10, ite_self]
          have pu := qm_puts (x := 1) (v := nI v) (less := 1) (j := 0 + 16 + d) a1 h10 (by omega)
          have ej : ((16 : Int32) + (7 : Int32) * nI 0) + nI d = nI (0 + 16 + d) := by
            rw [show (16 : Int32) = nI 16 from rfl, show (7 : Int32) = nI 7 from rfl, pk_mul, nI_add, nI_add]
          have ans : g (0 + 16 + d) + 1 = gc d := by rw [(a2.2.2.1 d (by omega)).1, Int32.sub_add_cancel, d2 d (by omega)]
          refine ⟨_, upd g (0 + 16 + d) (nI v - 1), ?_, ⟨by rw [zg_sn (by omega)]; exact a1.1, zg_ss⟩, zs_Psw a2 v3 (fun q _ _ _ => pk_un (by omega)) fun j hj => ?_, fun q q1 q2 => pk_un (by omega), zFr_s (by omega) (by omega)⟩
          · simp only [zc152, zB152, a1.1, m0, e', m1, f', m2, m3, q', ej, pu, ans, eq_true (show nI 0 = (0 : Int32) by decide), eq_false (show ¬ nI 0 = (1 : Int32) by decide), zm_nx, zq_rc_o, zq_bi_o, zq_bl_o, zq_bv_o, not_true_eq_false, not_false_eq_true, if_true, if_false, h10, ite_self]
          · by_cases z : j = d
            · subst z
              rw [pk_us, pk_us]
            · rw [pk_un (by omega), pk_un z, d2 j hj]
              exact (a2.2.2.1 j hj).1
      | 1, _, f' =>
        rcases zw_in_c z (u := 8) (by decide) with q | ⟨v, hv, ez, q⟩
        · have q' : zw_in z 0 8 = 0 := q
          refine zt_ro (r := -1) hK hO ?_ ?_
          · simp only [zc70, zB70, c0, e', c1, f', c2, q', eq_false (show ¬ nI 1 = (0 : Int32) by decide), eq_true (show nI 1 = (1 : Int32) by decide), zm_nx, zq_rc_o, zq_bi_o, zq_bl_o, zq_bv_o, not_true_eq_false, not_false_eq_true, if_true, if_false, h10, ite_self]
          · simp only [zc152, zB152, a1.1, m0, e', m1, f', m2, m3, q', p0, eq_false (show ¬ nI 1 = (0 : Int32) by decide), eq_true (show nI 1 = (1 : Int32) by decide), zm_nx, zq_rc_o, zq_bi_o, zq_bl_o, zq_bv_o, not_true_eq_false, not_false_eq_true, if_true, if_false, h10, ite_self]
        · subst ez
          have q' : zw_in (nI v) 0 8 = 1 := q
          obtain ⟨gc, d1, d2, d3⟩ := zV_sd kV
          have V1 := d3 (zm_s h (1 + 9) (.inl (0, 7, .inl (upd gc d (nI v))))) (fun b _ _ hb => zg_sn hb) _ zg_ss
          have F1 : zm_Fr h (zm_s h (1 + 9) (.inl (0, 7, .inl (upd gc d (nI v))))) 1 11 := zFr_s (by omega) (by omega)
          have O1 : zp_ok (Y.1.1, Y.1.2.1, Y.1.2.2.1, upd gc d (nI v), Y.1.2.2.2.2) := by
            refine ⟨kO.1, kO.2.1, fun j hj => ?_⟩
            have ok1 : ∃ a, a < 9 ∧ upd gc d (nI v) j = nI a := by
              by_cases z : j = d
              · subst z
                exact ⟨v, by omega, pk_us⟩
              · rw [pk_un z, d2 j hj]
                exact (kO.2.2 j hj).2
            exact ⟨(kO.2.2 j hj).1, ok1⟩
          refine zt_now hK hO (r := gc d) ?_ V1 O1 kd F1 fun A g a1 a2 => ?_
          · simp only [zc70, zB70, c0, e', c1, f', c2, q', eq_false (show ¬ nI 1 = (0 : Int32) by decide), eq_true (show nI 1 = (1 : Int32) by decide), k0, zkr0, v1, zgr_1_2, d1, zq_al_o (show d < 7 by omega) (show (7 : Nat) < 2 ^ 31 by decide), zq_as_o (show d < 7 by omega) (show (7 : Nat) < 2 ^ 31 by decide), zm_nx, zq_rc_o, zq_bi_o, zq_bl_o, zq_bv_o, not_true_eq_false, not_false_eq_true, if_true, if_false, h10, ite_self]
          have pu := qm_puts (x := 1) (v := nI v) (less := 4) (j := 0 + 23 + d) a1 h10 (by omega)
          have ej : ((16 : Int32) + (7 : Int32) * nI 1) + nI d = nI (0 + 23 + d) := by
            rw [show (16 : Int32) = nI 16 from rfl, show (7 : Int32) = nI 7 from rfl, pk_mul, nI_add, nI_add]
          have ans : g (0 + 23 + d) + 4 = gc d := by rw [(a2.2.2.1 d (by omega)).2, Int32.sub_add_cancel, d2 d (by omega)]
          refine ⟨_, upd g (0 + 23 + d) (nI v - 4), ?_, ⟨by rw [zg_sn (by omega)]; exact a1.1, zg_ss⟩, zs_Psd a2 v3 (fun q _ _ _ => pk_un (by omega)) fun j hj => ?_, fun q q1 q2 => pk_un (by omega), zFr_s (by omega) (by omega)⟩
          · simp only [zc152, zB152, a1.1, m0, e', m1, f', m2, m3, q', ej, pu, ans, eq_false (show ¬ nI 1 = (0 : Int32) by decide), eq_true (show nI 1 = (1 : Int32) by decide), zm_nx, zq_rc_o, zq_bi_o, zq_bl_o, zq_bv_o, not_true_eq_false, not_false_eq_true, if_true, if_false, h10, ite_self]
          · by_cases z : j = d
            · subst z
              rw [pk_us, pk_us]
            · rw [pk_un (by omega), pk_un z, d2 j hj]
              exact (a2.2.2.1 j hj).2
      | n + 2, hn, _ => exact absurd hn (by omega)
end ZT47
