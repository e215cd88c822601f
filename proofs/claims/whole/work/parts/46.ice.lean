section ZT46
variable {h : zm_H} {Y : zy_T}
theorem zf_sz {f : zf_T} (hf : zf_ok f) : (f.2.1 = 0) = (f.2.1 ≤ 0) := by
  obtain ⟨k, s, l, -, hs, -, rfl⟩ := hf
  show (nI s = 0) = (nI s ≤ 0)
  by_cases h : s = 0
  · subst h
    decide
  · exact propext ⟨fun z => absurd z (nI_ne0 (by omega) (by omega)), fun z => absurd z (nI_nle (by omega) (by omega))⟩
theorem zf_half {f : zf_T} (hf : zf_ok f) : zf_ok (f.1, f.2.1 / 2, f.2.2) := by
  obtain ⟨k, s, l, hk, hs, hl, rfl⟩ := hf
  refine ⟨k, s / 2, l, hk, by omega, hl, ?_⟩
  show (nI k, nI s / 2, nI l) = _
  rw [show (2 : Int32) = nI 2 from rfl, pk_div (by omega) (by decide) (by decide)]
theorem qm_stands {i : Nat} {A g : Nat → Int32} (a1 : zo_M h 137 A g) (a2 : zs_P g 0 Y.1) (ho : zp_ok Y.1) (hi : i < Y.1.1) : zm_call 155 [.ref 137, .int (nI i)] h = some (some (.int (if (Y.1.2.1 i).2.1 ≤ 0 then -2 else 0)), h) := by
  have h10 : ¬ (1 : Int32) = 0 := by decide
  have m0 := qm_isfig (x := nI i) a1 a2 ho.1
  have e : zw_fig (nI i) Y.1.1 = 1 := by
    unfold zw_fig
    rw [if_neg (nI_pos (by have := ho.1; omega)), if_neg (nI_ge hi (by have := ho.1; omega))]
  have hn := ho.1
  have q : ∀ f : Int32 → zm_O, zq_al (.inl (0, 186, .inl g)) 0 ((5 : Int32) + nI i) f = f (Y.1.2.1 i).2.1 := fun f => zy_al (j := 0 + 5 + i) (by rw [Nat.zero_add]; exact nI_add 5 i) (by omega) (by decide) (a2.2.1 i hi).2.1
  simp only [zc155, zB155, a1.1, a1.2, m0, e, zor0, q, zf_sz (ho.2.1 i hi), zm_nx, zq_rc_o, zq_bi_o, zq_bl_o, zq_bv_o, not_true_eq_false, not_false_eq_true, if_true, if_false, h10, ite_self]
  by_cases z : (Y.1.2.1 i).2.1 ≤ 0
  · simp only [z, zm_nx, zq_rc_o, zq_bi_o, zq_bl_o, zq_bv_o, not_true_eq_false, not_false_eq_true, if_true, if_false, h10, ite_self]
  · simp only [z, zm_nx, zq_rc_o, zq_bi_o, zq_bl_o, zq_bv_o, not_true_eq_false, not_false_eq_true, if_true, if_false, h10, ite_self]
theorem qm_stands0 {x : Int32} {A g : Nat → Int32} (a1 : zo_M h 137 A g) (a2 : zs_P g 0 Y.1) (ho : zp_ok Y.1) (e : zw_fig x Y.1.1 = 0) : zm_call 155 [.ref 137, .int x] h = some (some (.int (-1)), h) := by
  have h10 : ¬ (1 : Int32) = 0 := by decide
  have m0 := qm_isfig (x := x) a1 a2 ho.1
  simp only [zc155, zB155, a1.1, m0, e, zm_nx, zq_rc_o, zq_bi_o, zq_bl_o, zq_bv_o, not_true_eq_false, not_false_eq_true, if_true, if_false, h10, ite_self]
theorem zt_ice (x : Int32) (hK : zk_K h Y) (hO : zo_K h Y) : zt_R 72 156 [.int x] h := by
  have k0 := hK.1
  obtain ⟨kV, kO, kd⟩ := hK.2.1
  obtain ⟨ad, Q, -, -, v1, v2, v3, v4⟩ := zV_row kV
  obtain ⟨A, g, a1, a2, a3, -⟩ := id hO
  have h10 : ¬ (1 : Int32) = 0 := by decide
  have c0 := qc_isfig (x := x) k0 kV
  have n1 : ¬ (0 : Int32) ≤ -1 := by decide
  have n2 : ¬ (0 : Int32) ≤ -2 := by decide
  have n0 : (0 : Int32) ≤ 0 := by decide
  rcases zw_fig_c x v3 with e | ⟨i, hi, ex, e⟩
  · refine zt_ro (r := -1) hK hO ?_ ?_
    · simp only [zc72, zB72, k0, c0, e, zm_nx, zq_rc_o, zq_bi_o, zq_bl_o, zq_bv_o, not_true_eq_false, not_false_eq_true, if_true, if_false, h10, ite_self]
    · simp only [zc156, zB156, a1.1, qm_stands0 a1 a2 kO e, n1, zm_nx, zq_rc_o, zq_bi_o, zq_bl_o, zq_bv_o, not_true_eq_false, not_false_eq_true, if_true, if_false, h10, ite_self]
  · subst ex
    rw [e] at c0
    obtain ⟨ga, a, d1, d2, d3, d4, d5, d6⟩ := zV_sf kV hi
    have st := qc_stands d3
    have rc : ∀ o : zm_O, zq_rc (zf_c (Y.1.2.1 i)) 0 o = o := fun o => rfl
    by_cases z : (Y.1.2.1 i).2.1 ≤ 0
    · refine zt_ro (r := -2) hK hO ?_ ?_
      · simp only [zc72, zB72, k0, c0, zkr0, v1, zgr_1_0, v2, zgr_2_0, d1, zq_ql_o (show i < 5 by omega) (by decide) d2, d3, rc, st, z, zm_nx, zq_rc_o, zq_bi_o, zq_bl_o, zq_bv_o, not_true_eq_false, not_false_eq_true, if_true, if_false, h10, ite_self]
      · simp only [zc156, zB156, a1.1, qm_stands a1 a2 kO hi, z, n2, zm_nx, zq_rc_o, zq_bi_o, zq_bl_o, zq_bv_o, not_true_eq_false, not_false_eq_true, if_true, if_false, h10, ite_self]
    · have G : zf_ok (3, (Y.1.2.1 i).2.1, (Y.1.2.1 i).2.2) := by
          obtain ⟨k, s, l, hk, hs, hl, ef⟩ := kO.2.1 i hi
          rw [ef]
          exact ⟨3, s, l, by decide, hs, hl, rfl⟩
      have V1 := d6 (zm_s h a (zf_c (3, (Y.1.2.1 i).2.1, (Y.1.2.1 i).2.2))) (fun b _ _ hb => zg_sn hb) _ zg_ss
      have F1 : zm_Fr h (zm_s h a (zf_c (3, (Y.1.2.1 i).2.1, (Y.1.2.1 i).2.2))) 1 11 := zFr_s (by omega) (by omega)
      refine zt_now hK hO (r := (Y.1.2.1 i).1) ?_ V1 (zp_ok_sf kO G) kd F1 fun A g a1 a2 => ?_
      · simp only [zc72, zB72, k0, c0, zkr0, v1, zgr_1_0, v2, zgr_2_0, d1, zq_ql_o (show i < 5 by omega) (by decide) d2, d3, rc, st, z, show ∀ (x : Int32) (o : va_E → zm_O), zq_pi (zf_c (Y.1.2.1 i)) 0 0 x o = o (zf_c (x, (Y.1.2.1 i).2.1, (Y.1.2.1 i).2.2)) from fun _ _ => rfl, show ∀ o : Int32 → zm_O, zq_gi (zf_c (Y.1.2.1 i)) 0 0 o = o (Y.1.2.1 i).1 from fun _ => rfl, zm_nx, zq_rc_o, zq_bi_o, zq_bl_o, zq_bv_o, not_true_eq_false, not_false_eq_true, if_true, if_false, h10, ite_self]
      have pu := qm_puts (x := 1) (v := 3) (less := 0) (j := 0 + i) a1 h10 (by omega)
      have ej : nI i = nI (0 + i) := by rw [Nat.zero_add]
      have pu' : zm_call 150 [.ref 137, .int 1, .int (nI i), .int 3, .int 0] _ = _ := ej ▸ pu
      have ans : g (0 + i) + 0 = (Y.1.2.1 i).1 := (Int32.add_zero _).trans (a2.2.1 i hi).1
      refine ⟨_, upd g (0 + i) (3 - 0), ?_, ⟨by rw [zg_sn (by omega)]; exact a1.1, zg_ss⟩, zs_Psf a2 v3 (i := i) (fun q _ _ _ _ _ => pk_un (by omega)) hi ?_ ?_ ?_, fun q q1 q2 => pk_un (by omega), zFr_s (by omega) (by omega)⟩
      · simp only [zc156, zB156, a1.1, qm_stands a1 a2 kO hi, z, n0, pu', ans, zm_nx, zq_rc_o, zq_bi_o, zq_bl_o, zq_bv_o, not_true_eq_false, not_false_eq_true, if_true, if_false, h10, ite_self]
      · rw [pk_us]; rfl
      · rw [pk_un (by omega)]; exact (a2.2.1 i hi).2.1
      · rw [pk_un (by omega)]; exact (a2.2.1 i hi).2.2
theorem zt_salt (x : Int32) (hK : zk_K h Y) (hO : zo_K h Y) : zt_R 73 157 [.int x] h := by
  have k0 := hK.1
  obtain ⟨kV, kO, kd⟩ := hK.2.1
  obtain ⟨ad, Q, -, -, v1, v2, v3, v4⟩ := zV_row kV
  obtain ⟨A, g, a1, a2, a3, -⟩ := id hO
  have h10 : ¬ (1 : Int32) = 0 := by decide
  have c0 := qc_isfig (x := x) k0 kV
  have n1 : ¬ (0 : Int32) ≤ -1 := by decide
  have n2 : ¬ (0 : Int32) ≤ -2 := by decide
  have n0 : (0 : Int32) ≤ 0 := by decide
  rcases zw_fig_c x v3 with e | ⟨i, hi, ex, e⟩
  · refine zt_ro (r := -1) hK hO ?_ ?_
    · simp only [zc73, zB73, k0, c0, e, zm_nx, zq_rc_o, zq_bi_o, zq_bl_o, zq_bv_o, not_true_eq_false, not_false_eq_true, if_true, if_false, h10, ite_self]
    · simp only [zc157, zB157, a1.1, qm_stands0 a1 a2 kO e, n1, zm_nx, zq_rc_o, zq_bi_o, zq_bl_o, zq_bv_o, not_true_eq_false, not_false_eq_true, if_true, if_false, h10, ite_self]
  · subst ex
    rw [e] at c0
    obtain ⟨ga, a, d1, d2, d3, d4, d5, d6⟩ := zV_sf kV hi
    have st := qc_stands d3
    have rc : ∀ o : zm_O, zq_rc (zf_c (Y.1.2.1 i)) 0 o = o := fun o => rfl
    by_cases z : (Y.1.2.1 i).2.1 ≤ 0
    · refine zt_ro (r := -2) hK hO ?_ ?_
      · simp only [zc73, zB73, k0, c0, zkr0, v1, zgr_1_0, v2, zgr_2_0, d1, zq_ql_o (show i < 5 by omega) (by decide) d2, d3, rc, st, z, zm_nx, zq_rc_o, zq_bi_o, zq_bl_o, zq_bv_o, not_true_eq_false, not_false_eq_true, if_true, if_false, h10, ite_self]
      · simp only [zc157, zB157, a1.1, qm_stands a1 a2 kO hi, z, n2, zm_nx, zq_rc_o, zq_bi_o, zq_bl_o, zq_bv_o, not_true_eq_false, not_false_eq_true, if_true, if_false, h10, ite_self]
    · have G : zf_ok ((Y.1.2.1 i).1, (Y.1.2.1 i).2.1 / 2, (Y.1.2.1 i).2.2) := zf_half (kO.2.1 i hi)
      have V1 := d6 (zm_s h a (zf_c ((Y.1.2.1 i).1, (Y.1.2.1 i).2.1 / 2, (Y.1.2.1 i).2.2))) (fun b _ _ hb => zg_sn hb) _ zg_ss
      have F1 : zm_Fr h (zm_s h a (zf_c ((Y.1.2.1 i).1, (Y.1.2.1 i).2.1 / 2, (Y.1.2.1 i).2.2))) 1 11 := zFr_s (by omega) (by omega)
      refine zt_now hK hO (r := (Y.1.2.1 i).2.1 / 2) ?_ V1 (zp_ok_sf kO G) kd F1 fun A g a1 a2 => ?_
      · have hv := qc_halve d3
        simp only [zc73, zB73, k0, c0, zkr0, v1, zgr_1_0, v2, zgr_2_0, d1, zq_ql_o (show i < 5 by omega) (by decide) d2, d3, rc, st, z, hv, zg_ss, show ∀ o : Int32 → zm_O, zq_gi (zf_c ((Y.1.2.1 i).1, (Y.1.2.1 i).2.1 / 2, (Y.1.2.1 i).2.2)) 0 1 o = o ((Y.1.2.1 i).2.1 / 2) from fun _ => rfl, zm_nx, zq_rc_o, zq_bi_o, zq_bl_o, zq_bv_o, not_true_eq_false, not_false_eq_true, if_true, if_false, h10, ite_self]
      have q1 : ∀ (g : Nat → Int32) (f : Int32 → zm_O), zq_al (.inl (0, 186, .inl g)) 0 ((5 : Int32) + nI i) f = f (g (0 + 5 + i)) := fun g f => zy_al (j := 0 + 5 + i) (by rw [Nat.zero_add]; exact nI_add 5 i) (by omega) (by decide) rfl
      have q2 : ∀ (x : Int32) (f : va_E → zm_O), zq_as (.inl (0, 186, .inl g)) 0 ((5 : Int32) + nI i) x f = f (.inl (0, 186, .inl (upd g (0 + 5 + i) x))) := fun x f => by
        rw [show (5 : Int32) + nI i = nI (0 + 5 + i) from by rw [Nat.zero_add]; exact nI_add 5 i]
        exact zq_as_o (by omega) (by decide)
      have sz := (a2.2.1 i hi).2.1
      refine ⟨zm_s _ 138 (.inl (0, 186, .inl (upd g (0 + 5 + i) ((Y.1.2.1 i).2.1 / 2)))), upd g (0 + 5 + i) ((Y.1.2.1 i).2.1 / 2), ?_, ⟨by rw [zg_sn (by omega)]; exact a1.1, zg_ss⟩, zs_Psf a2 v3 (i := i) (fun q _ _ _ _ _ => pk_un (by omega)) hi ?_ ?_ ?_, fun q q1 q2 => pk_un (by omega), zFr_s (by omega) (by omega)⟩
      · simp only [zc157, zB157, a1.1, a1.2, qm_stands a1 a2 kO hi, z, n0, zor0, q1, q2, sz, zg_sn (show 137 ≠ 137 + 1 by omega), zg_ss, pk_us, zm_nx, zq_rc_o, zq_bi_o, zq_bl_o, zq_bv_o, not_true_eq_false, not_false_eq_true, if_true, if_false, h10, ite_self]
      · rw [pk_un (by omega)]; exact (a2.2.1 i hi).1
      · rw [pk_us]
      · rw [pk_un (by omega)]; exact (a2.2.1 i hi).2.2
end ZT46
