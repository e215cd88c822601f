def zp_add (P : zp_T) (f : zf_T) : zp_T := (P.1 + 1, (fun j => if j = P.1 then f else P.2.1 j), P.2.2)
def zp_roll (x y : Int32) (P : zp_T) : Int32 × zp_T := if zw_in x 0 3 = 0 then (-1, P) else if zw_in y 0 99 = 0 then (-1, P) else if P.1 = 5 then (-3, P) else (nI (P.1 + 1), zp_add P (x, y, 20))
section ZT48
variable {h : zm_H} {Y : zy_T} {P : zp_T} {F k R x y : Int32}
theorem zV_add {p : Nat} {f : zf_T} (hV : zp_V h p P) (hn : P.1 < 5) : ∃ h', zm_call 20 [.ref (p + 1), .int f.1, .int f.2.1, .int f.2.2] h = some (none, h') ∧ zp_V h' p (zp_add P f) ∧ zm_Fr h h' (p + 1) (p + 8) := by
  obtain ⟨ad, Q, h1, h2⟩ := hV
  obtain ⟨d1, d2, c0, d3, d4⟩ := id h1
  obtain ⟨h', e1, e2, e3⟩ := qc_add (f := f) c0 (by rw [h2.1]; exact hn)
  refine ⟨h', e1, ⟨ad, zp_add Q f, ⟨d1, by rw [e3.2.2 p (by omega)]; exact d2, e2, za_keep d3 (e3.2.2 _ (by omega)), za_keep d4 (e3.2.2 _ (by omega))⟩, ?_, fun i hi => ?_, h2.2.2⟩, e3⟩
  · show Q.1 + 1 = P.1 + 1
    rw [h2.1]
  · have hi' : i < Q.1 + 1 := hi
    show (if i = Q.1 then f else Q.2.1 i) = (if i = P.1 then f else P.2.1 i)
    rw [← h2.1]
    by_cases z : i = Q.1
    · rw [if_pos z, if_pos z]
    · rw [if_neg z, if_neg z]
      exact h2.2.1 i (by omega)
theorem zp_ok_add {f : zf_T} (ho : zp_ok P) (hn : P.1 < 5) (hf : zf_ok f) : zp_ok (zp_add P f) := by
  refine ⟨hn, fun i hi => ?_, ho.2.2⟩
  have hi' : i < P.1 + 1 := hi
  show zf_ok (if i = P.1 then f else P.2.1 i)
  by_cases z : i = P.1
  · rw [if_pos z]
    exact hf
  · rw [if_neg z]
    exact ho.2.1 i (by omega)
theorem zp_roll_ok (ho : zp_ok P) : zp_ok (zp_roll x y P).2 := by
  unfold zp_roll
  rcases zw_in_c x (u := 3) (by decide) with e | ⟨a, ha, ex, e⟩
  · have e' : zw_in x 0 3 = 0 := e
    rw [if_pos e']
    exact ho
  · have e' : ¬ zw_in x 0 3 = 0 := fun z => absurd (e.symm.trans z) (by decide)
    rw [if_neg e']
    rcases zw_in_c y (u := 99) (by decide) with f | ⟨b, hb, ey, f⟩
    · have f' : zw_in y 0 99 = 0 := f
      rw [if_pos f']
      exact ho
    · have f' : ¬ zw_in y 0 99 = 0 := fun z => absurd (f.symm.trans z) (by decide)
      rw [if_neg f']
      by_cases z : P.1 = 5
      · rw [if_pos z]
        exact ho
      · rw [if_neg z]
        have := ho.1
        exact zp_ok_add ho (by omega) ⟨a, b, 20, by omega, by omega, by decide, by rw [ex, ey]; rfl⟩
theorem zp_roll_day : (zp_roll x y P).2.2.2.2.2 = P.2.2.2.2 := by
  unfold zp_roll
  repeat' split
  all_goals rfl
theorem qc_roll (k0 : zm_g h 0 = .inr (6, zk_c F k R)) (hV : zp_V h 1 P) : ∃ h', zm_call 110 [.ref 0, .int x, .int y] h = some (some (.int (zp_roll x y P).1), h') ∧ zp_V h' 1 (zp_roll x y P).2 ∧ zm_Fr h h' 1 11 := by
  have h10 : ¬ (1 : Int32) = 0 := by decide
  obtain ⟨ad, Q, -, -, v1, v2, v3, v4⟩ := zV_row hV
  have c0 := qc_within (h := h) x 3
  have c1 := qc_within (h := h) y 99
  unfold zp_roll
  rcases zw_in_c x (u := 3) (by decide) with e | ⟨a, ha, ex, e⟩
  · have e' : zw_in x 0 3 = 0 := e
    rw [if_pos e']
    refine ⟨h, ?_, hV, zFr_rf _ _ _⟩
    simp only [zc110, zB110, c0, e', zm_nx, zq_rc_o, zq_bi_o, zq_bl_o, zq_bv_o, not_true_eq_false, not_false_eq_true, if_true, if_false, h10, ite_self]
  · have e1 : zw_in x 0 3 = 1 := e
    have e' : ¬ zw_in x 0 3 = 0 := fun z => absurd (e.symm.trans z) (by decide)
    rw [if_neg e']
    rcases zw_in_c y (u := 99) (by decide) with f | ⟨b, hb, ey, f⟩
    · have f' : zw_in y 0 99 = 0 := f
      rw [if_pos f']
      refine ⟨h, ?_, hV, zFr_rf _ _ _⟩
      simp only [zc110, zB110, c0, e1, c1, f', zm_nx, zq_rc_o, zq_bi_o, zq_bl_o, zq_bv_o, not_true_eq_false, not_false_eq_true, if_true, if_false, h10, ite_self]
    · have f1 : zw_in y 0 99 = 1 := f
      have f' : ¬ zw_in y 0 99 = 0 := fun z => absurd (f.symm.trans z) (by decide)
      rw [if_neg f']
      by_cases z : P.1 = 5
      · rw [if_pos z]
        refine ⟨h, ?_, hV, zFr_rf _ _ _⟩
        have n5 : ¬ nI P.1 < (5 : Int32) := by rw [z]; decide
        simp only [zc110, zB110, c0, e1, c1, f1, k0, zkr0, v1, zgr_1_0, v2, zgi_2_1, n5, zm_nx, zq_rc_o, zq_bi_o, zq_bl_o, zq_bv_o, not_true_eq_false, not_false_eq_true, if_true, if_false, h10, ite_self]
      · rw [if_neg z]
        have n5 : nI P.1 < (5 : Int32) := nI_lt (a := P.1) (b := 5) (by omega) (by decide)
        obtain ⟨h', d1, d2, d3⟩ := zV_add (f := (x, y, 20)) hV (by omega)
        have d1' : zm_call 20 [.ref (1 + 1), .int x, .int y, .int 20] h = some (none, h') := d1
        obtain ⟨ad, Q, -, -, w1, w2, w3, w4⟩ := zV_row d2
        have w2' : zm_g h' (1 + 1) = .inr (2, [.ref (1 + 2), .int (nI (P.1 + 1))]) := w2
        refine ⟨h', ?_, d2, zFr_mn d3 (by omega) (by omega)⟩
        have k1 : zm_g h' 0 = .inr (6, zk_c F k R) := (d3.2.2 0 (by omega)).trans k0
        simp only [zc110, zB110, c0, e1, c1, f1, k0, zkr0, v1, zgr_1_0, v2, zgi_2_1, n5, d1', k1, w1, w2', zm_nx, zq_rc_o, zq_bi_o, zq_bl_o, zq_bv_o, not_true_eq_false, not_false_eq_true, if_true, if_false, h10, ite_self]
theorem qm_roll {A g : Nat → Int32} (a1 : zo_M h 137 A g) (a2 : zs_P g 0 P) (hn : P.1 ≤ 5) : ∃ h' g', zm_call 153 [.ref 137, .int x, .int y] h = some (some (.int (zp_roll x y P).1), h') ∧ zo_M h' 137 A g' ∧ zs_P g' 0 (zp_roll x y P).2 ∧ (∀ q, 31 ≤ q → g' q = g q) ∧ zm_Fr h h' 138 139 := by
  have h10 : ¬ (1 : Int32) = 0 := by decide
  have hc : (186 : Nat) < 2 ^ 31 := by decide
  have c0 := qm_in (h := h) x 0 3 (0 : Int64) (3 : Int64) (by decide) (by decide)
  have c1 := qm_in (h := h) y 0 99 (0 : Int64) (99 : Int64) (by decide) (by decide)
  have e15 : ∀ f : Int32 → zm_O, zq_al (.inl (0, 186, .inl g)) 0 (15 : Int32) f = f (nI P.1) := fun f => zy_al (j := 15) rfl (by decide) (by decide) a2.1
  unfold zp_roll
  rcases zw_in_c x (u := 3) (by decide) with e | ⟨a, ha, ex, e⟩
  · have e' : zw_in x 0 3 = 0 := e
    rw [if_pos e']
    refine ⟨h, g, ?_, a1, a2, fun _ _ => rfl, zFr_rf _ _ _⟩
    simp only [zc153, zB153, c0, e', zm_nx, zq_rc_o, zq_bi_o, zq_bl_o, zq_bv_o, not_true_eq_false, not_false_eq_true, if_true, if_false, h10, ite_self]
  · have e1 : zw_in x 0 3 = 1 := e
    have e' : ¬ zw_in x 0 3 = 0 := fun z => absurd (e.symm.trans z) (by decide)
    rw [if_neg e']
    rcases zw_in_c y (u := 99) (by decide) with f | ⟨b, hb, ey, f⟩
    · have f' : zw_in y 0 99 = 0 := f
      rw [if_pos f']
      refine ⟨h, g, ?_, a1, a2, fun _ _ => rfl, zFr_rf _ _ _⟩
      simp only [zc153, zB153, c0, e1, c1, f', zm_nx, zq_rc_o, zq_bi_o, zq_bl_o, zq_bv_o, not_true_eq_false, not_false_eq_true, if_true, if_false, h10, ite_self]
    · have f1 : zw_in y 0 99 = 1 := f
      have f' : ¬ zw_in y 0 99 = 0 := fun z => absurd (f.symm.trans z) (by decide)
      rw [if_neg f']
      by_cases z : P.1 = 5
      · rw [if_pos z]
        refine ⟨h, g, ?_, a1, a2, fun _ _ => rfl, zFr_rf _ _ _⟩
        have n5 : nI P.1 = (5 : Int32) := by rw [z]; rfl
        simp only [zc153, zB153, c0, e1, c1, f1, a1.1, a1.2, zor0, e15, n5, zm_nx, zq_rc_o, zq_bi_o, zq_bl_o, zq_bv_o, not_true_eq_false, not_false_eq_true, if_true, if_false, h10, ite_self]
      · rw [if_neg z]
        have n5 : ¬ nI P.1 = (5 : Int32) := fun q => z ((nI_eq (a := P.1) (b := 5) (by omega) (by decide)).mp q)
        have s0 : ∀ (g : Nat → Int32) (x : Int32) (f : va_E → zm_O), zq_as (.inl (0, 186, .inl g)) 0 (nI P.1) x f = f (.inl (0, 186, .inl (upd g (0 + P.1) x))) := fun g x f => by
          rw [Nat.zero_add]
          exact zq_as_o (by omega) hc
        have s5 : ∀ (g : Nat → Int32) (x : Int32) (f : va_E → zm_O), zq_as (.inl (0, 186, .inl g)) 0 ((5 : Int32) + nI P.1) x f = f (.inl (0, 186, .inl (upd g (0 + 5 + P.1) x))) := fun g x f => by
          rw [show (5 : Int32) + nI P.1 = nI (0 + 5 + P.1) from by rw [Nat.zero_add]; exact nI_add 5 _]
          exact zq_as_o (by omega) hc
        have s10 : ∀ (g : Nat → Int32) (x : Int32) (f : va_E → zm_O), zq_as (.inl (0, 186, .inl g)) 0 ((10 : Int32) + nI P.1) x f = f (.inl (0, 186, .inl (upd g (0 + 10 + P.1) x))) := fun g x f => by
          rw [show (10 : Int32) + nI P.1 = nI (0 + 10 + P.1) from by rw [Nat.zero_add]; exact nI_add 10 _]
          exact zq_as_o (by omega) hc
        have s15 : ∀ (g : Nat → Int32) (x : Int32) (f : va_E → zm_O), zq_as (.inl (0, 186, .inl g)) 0 (15 : Int32) x f = f (.inl (0, 186, .inl (upd g 15 x))) := fun g x f => zq_as_o (j := 15) (by decide) hc
        have l15 : ∀ (g : Nat → Int32) (f : Int32 → zm_O), zq_al (.inl (0, 186, .inl g)) 0 (15 : Int32) f = f (g 15) := fun g f => zq_al_o (j := 15) (by decide) hc
        have u15 : upd (upd (upd g (0 + P.1) x) (0 + 5 + P.1) y) (0 + 10 + P.1) 0 15 = nI P.1 := by
          rw [pk_un (by omega), pk_un (by omega), pk_un (by omega)]
          exact a2.1
        have g15 : g 15 = nI P.1 := a2.1
        refine ⟨zm_s h 138 (.inl (0, 186, .inl (upd (upd (upd (upd g (0 + P.1) x) (0 + 5 + P.1) y) (0 + 10 + P.1) 0) 15 (nI (P.1 + 1))))), _, ?_, ⟨by rw [zg_sn (by omega)]; exact a1.1, zg_ss⟩, ?_, fun q hq => by rw [pk_un (by omega), pk_un (by omega), pk_un (by omega), pk_un (by omega)], zFr_s (by omega) (by omega)⟩
        · simp only [zc153, zB153, c0, e1, c1, f1, a1.1, a1.2, zor0, l15, g15, n5, s0, s5, s10, s15, zg_sn (show 137 ≠ 137 + 1 by omega), zg_ss, zs_ss, u15, nI_1, pk_us, zm_nx, zq_rc_o, zq_bi_o, zq_bl_o, zq_bv_o, not_true_eq_false, not_false_eq_true, if_true, if_false, h10, ite_self]
        · refine ⟨pk_us, fun i hi => ?_, fun d hd => ?_, ?_⟩
          · have hi' : i < P.1 + 1 := hi
            show _ = (if i = P.1 then ((x, y, 20) : zf_T) else P.2.1 i).1 ∧ _ = (if i = P.1 then ((x, y, 20) : zf_T) else P.2.1 i).2.1 ∧ _ = (if i = P.1 then ((x, y, 20) : zf_T) else P.2.1 i).2.2 - 20
            by_cases q : i = P.1
            · subst q
              rw [if_pos rfl]
              refine ⟨?_, ?_, ?_⟩
              · rw [pk_un (by omega), pk_un (by omega), pk_un (by omega), pk_us]
              · rw [pk_un (by omega), pk_un (by omega), pk_us]
              · rw [pk_un (by omega), pk_us]
                show (0 : Int32) = 20 - 20
                decide
            · rw [if_neg q]
              refine ⟨?_, ?_, ?_⟩
              · rw [pk_un (by omega), pk_un (by omega), pk_un (by omega), pk_un (by omega)]
                exact (a2.2.1 i (by omega)).1
              · rw [pk_un (by omega), pk_un (by omega), pk_un (by omega), pk_un (by omega)]
                exact (a2.2.1 i (by omega)).2.1
              · rw [pk_un (by omega), pk_un (by omega), pk_un (by omega), pk_un (by omega)]
                exact (a2.2.1 i (by omega)).2.2
          · rw [pk_un (by omega), pk_un (by omega), pk_un (by omega), pk_un (by omega), pk_un (by omega), pk_un (by omega), pk_un (by omega), pk_un (by omega)]
            exact a2.2.2.1 d hd
          · rw [pk_un (by omega), pk_un (by omega), pk_un (by omega), pk_un (by omega)]
            exact a2.2.2.2
theorem zt_roll (x y : Int32) (hK : zk_K h Y) (hO : zo_K h Y) : zt_R 71 154 [.int x, .int y] h := by
  have k0 := hK.1
  obtain ⟨kV, kO, kd⟩ := hK.2.1
  obtain ⟨ad, Q, -, -, v1, v2, v3, v4⟩ := zV_row kV
  obtain ⟨A, g, a1, a2, a3, -⟩ := id hO
  have h10 : ¬ (1 : Int32) = 0 := by decide
  obtain ⟨h1, b1, b2, b3⟩ := qc_roll (x := x) (y := y) k0 kV
  refine zt_now hK hO (r := (zp_roll x y Y.1).1) ?_ b2 (zp_roll_ok kO) (by rw [zp_roll_day]; exact kd) b3 fun A g a1 a2 => ?_
  · simp only [zc71, zB71, k0, b1, zm_nx, zq_rc_o, zq_bi_o, zq_bl_o, zq_bv_o, not_true_eq_false, not_false_eq_true, if_true, if_false, h10, ite_self]
  obtain ⟨h2, g', c1, c2, c3, c4, c5⟩ := qm_roll (x := x) (y := y) a1 a2 v3
  refine ⟨h2, g', ?_, c2, c3, fun q q1 _ => c4 q q1, c5⟩
  simp only [zc154, zB154, a1.1, c1, zm_nx, zq_rc_o, zq_bi_o, zq_bl_o, zq_bv_o, not_true_eq_false, not_false_eq_true, if_true, if_false, h10, ite_self]
end ZT48
