section ZT82
variable {h h0 : zm_H} {t : tk_T} {p : Nat} {P : zp_T} {a k q v L fa fp : Int32}
theorem tk_N_le : tk_N t p ≤ 5 := by
  unfold tk_N tk_nm
  repeat' split
  all_goals decide
theorem tk_fig_ok {q0 : Nat} {N : Nat} (hN : N < 4) (hp : p ≤ t.1) (hb : ∀ j, j < t.1 → ∃ c, c < 128 ∧ t.2 j = nI c) (ho : zp_ok P) (hc : (tk_fig t q0 p (nI N) P).1 = 0) : p ≤ (tk_fig t q0 p (nI N) P).2.1 ∧ (tk_fig t q0 p (nI N) P).2.1 ≤ t.1 ∧ zp_ok (tk_fig t q0 p (nI N) P).2.2 ∧ (tk_fig t q0 p (nI N) P).2.2.2.2.2.2 = P.2.2.2.2 := by
  have hE := tk_E_le hp
  have hE2 := tk_E_le (t := t) (p := tk_E t p) hE.2.1
  have hE3 := tk_E_le (t := t) (p := tk_E t (tk_E t p)) hE2.2.1
  have hQ := tk_Q_le hp
  have hQ2 := tk_Q_le (t := t) (p := tk_E t p) hE.2.1
  have hQ3 := tk_Q_le (t := t) (p := tk_E t (tk_E t p)) hE2.2.1
  have o5 := ho.1
  by_cases z : P.1 = 5
  · have er : tk_fig t q0 p (nI N) P = (5, q0, P) := by unfold tk_fig; rw [if_pos z]
    rw [er] at hc
    exact absurd (show (5 : Nat) = 0 from hc) (by decide)
  · by_cases n1 : tk_n t p 99 = 0
    · by_cases n2 : tk_n t (tk_E t p) 40 = 0
      · by_cases n3 : tk_g t (tk_E t (tk_E t p)) = 0
        · have er : tk_fig t q0 p (nI N) P = (0, tk_E t (tk_E t (tk_E t p)), zp_add P (nI N, tk_V t p, tk_V t (tk_E t p))) := by
            unfold tk_fig
            rw [if_neg z, if_neg (not_not_intro n1), if_neg (not_not_intro n2), if_neg (not_not_intro n3)]
          rw [er]
          obtain ⟨s, hs, es⟩ := tk_n_v (M := 99) (by decide) hp hb n1
          obtain ⟨l, hl, el⟩ := tk_n_v (M := 40) (by decide) hE.2.1 hb n2
          refine ⟨?_, hE3.2.1, zp_ok_add ho (by omega) ⟨N, s, l, hN, by omega, by omega, by rw [es, el]⟩, rfl⟩
          show p ≤ tk_E t (tk_E t (tk_E t p))
          omega
        · have er : tk_fig t q0 p (nI N) P = (tk_g t (tk_E t (tk_E t p)), tk_Q t (tk_E t (tk_E t p)), P) := by
            unfold tk_fig
            rw [if_neg z, if_neg (not_not_intro n1), if_neg (not_not_intro n2), if_pos n3]
          rw [er] at hc
          exact absurd hc n3
      · have er : tk_fig t q0 p (nI N) P = (tk_n t (tk_E t p) 40, tk_Q t (tk_E t p), P) := by
          unfold tk_fig
          rw [if_neg z, if_neg (not_not_intro n1), if_pos n2]
        rw [er] at hc
        exact absurd hc n2
    · have er : tk_fig t q0 p (nI N) P = (tk_n t p 99, tk_Q t p, P) := by
        unfold tk_fig
        rw [if_neg z, if_pos n1]
      rw [er] at hc
      exact absurd hc n1
theorem tk_day_ok {td : Nat} (htd : td < 128) (hp : p ≤ t.1) (hb : ∀ j, j < t.1 → ∃ c, c < 128 ∧ t.2 j = nI c) (ho : zp_ok P) (hc : (tk_day t p P td).1 = 0) : p ≤ (tk_day t p P td).2.1 ∧ (tk_day t p P td).2.1 ≤ t.1 ∧ zp_ok (tk_day t p P td).2.2.1 ∧ (tk_day t p P td).2.2.1.2.2.2.2 = P.2.2.2.2 ∧ (tk_day t p P td).2.2.2 < 128 := by
  have hE := tk_E_le hp
  have hE2 := tk_E_le (t := t) (p := tk_E t p) hE.2.1
  have hE3 := tk_E_le (t := t) (p := tk_E t (tk_E t p)) hE2.2.1
  have hE4 := tk_E_le (t := t) (p := tk_E t (tk_E t (tk_E t p))) hE3.2.1
  have hQ := tk_Q_le hp
  have hQ2 := tk_Q_le (t := t) (p := tk_E t p) hE.2.1
  have hQ3 := tk_Q_le (t := t) (p := tk_E t (tk_E t p)) hE2.2.1
  have hQ4 := tk_Q_le (t := t) (p := tk_E t (tk_E t (tk_E t p))) hE3.2.1
  unfold tk_day at hc ⊢
  by_cases n1 : tk_n t p 6 = 0
  · rw [if_neg (not_not_intro n1)] at hc ⊢
    obtain ⟨d, hd, ed⟩ := tk_n_v (M := 6) (by decide) hp hb n1
    have edn : tk_dn t p = d := by
      unfold tk_dn
      rw [ed, nI_clamp (by omega)]
    rw [edn] at hc ⊢
    by_cases tw : td / 2 ^ d % 2 = 1
    · rw [if_pos tw] at hc
      exact absurd (show (4 : Nat) = 0 from hc) (by decide)
    · rw [if_neg tw] at hc ⊢
      by_cases n2 : tk_n t (tk_E t p) 9 = 0
      · rw [if_neg (not_not_intro n2)] at hc ⊢
        by_cases n3 : tk_n t (tk_E t (tk_E t p)) 8 = 0
        · rw [if_neg (not_not_intro n3)] at hc ⊢
          by_cases n4 : tk_g t (tk_E t (tk_E t (tk_E t p))) = 0
          · rw [if_neg (not_not_intro n4)]
            obtain ⟨x, hx, ex⟩ := tk_n_v (M := 9) (by decide) hE.2.1 hb n2
            obtain ⟨y, hy, ey⟩ := tk_n_v (M := 8) (by decide) hE2.2.1 hb n3
            refine ⟨?_, hE4.2.1, ⟨ho.1, ho.2.1, fun j hj => ⟨?_, ?_⟩⟩, rfl, (tk_or d (by omega) td htd).2⟩
            · show p ≤ tk_E t (tk_E t (tk_E t (tk_E t p)))
              omega
            · show ∃ a, a < 10 ∧ upd P.2.2.1 d (tk_V t (tk_E t p)) j = nI a
              by_cases z : j = d
              · subst z
                exact ⟨x, by omega, by rw [pk_us, ex]⟩
              · rw [pk_un z]
                exact (ho.2.2 j hj).1
            · show ∃ a, a < 9 ∧ upd P.2.2.2.1 d (tk_V t (tk_E t (tk_E t p))) j = nI a
              by_cases z : j = d
              · subst z
                exact ⟨y, by omega, by rw [pk_us, ey]⟩
              · rw [pk_un z]
                exact (ho.2.2 j hj).2
          · rw [if_pos n4] at hc
            exact absurd hc n4
        · rw [if_pos n3] at hc
          exact absurd hc n3
      · rw [if_pos n2] at hc
        exact absurd hc n2
  · rw [if_pos n1] at hc
    exact absurd hc n1
theorem tk_line_ok {td : Nat} (htd : td < 128) (hp : p ≤ t.1) (hb : ∀ j, j < t.1 → ∃ c, c < 128 ∧ t.2 j = nI c) (ho : zp_ok P) (h4 : ¬ tk_S t p = 4) (hc : (tk_line t p P td).1 = 0) : p < (tk_line t p P td).2.1 ∧ (tk_line t p P td).2.1 ≤ t.1 ∧ zp_ok (tk_line t p P td).2.2.1 ∧ (tk_line t p P td).2.2.1.2.2.2.2 = P.2.2.2.2 ∧ (tk_line t p P td).2.2.2 < 128 := by
  have hE := tk_E_le hp
  have hQ := tk_Q_le hp
  have lt : tk_Q t p < t.1 := by
    by_cases y : tk_Q t p < t.1
    · exact y
    · exact absurd (tk_S_4.mpr (tk_S0_4.mpr y)) h4
  have hEq := hE.2.2 lt
  unfold tk_line at hc ⊢
  by_cases n1 : tk_N t p < 4
  · rw [if_pos n1] at hc ⊢
    obtain ⟨f1, f2, f3, f4⟩ := tk_fig_ok (q0 := tk_Q t p) n1 hE.2.1 hb ho hc
    exact ⟨Nat.lt_of_lt_of_le (by omega) f1, f2, f3, f4, htd⟩
  · rw [if_neg n1] at hc ⊢
    by_cases n2 : tk_N t p = 4
    · rw [if_pos n2] at hc ⊢
      obtain ⟨f1, f2, f3, f4, f5⟩ := tk_day_ok htd hE.2.1 hb ho hc
      exact ⟨Nat.lt_of_lt_of_le (by omega) f1, f2, f3, f4, f5⟩
    · rw [if_neg n2] at hc
      have : (if tk_S t p = 3 then 1 else 2) = 0 := hc
      split at this <;> exact absurd this (by decide)
theorem tk_all_ok (hb : ∀ j, j < t.1 → ∃ c, c < 128 ∧ t.2 j = nI c) : ∀ (m p : Nat) (P : zp_T) (td L : Nat), td < 128 → p ≤ t.1 → zp_ok P → (tk_all t m p P td L).1 = 0 → zp_ok (tk_all t m p P td L).2.2.2 ∧ (tk_all t m p P td L).2.2.2.2.2.2.2 = P.2.2.2.2
  | 0, p, P, td, L, _, _, ho, _ => ⟨ho, rfl⟩
  | m + 1, p, P, td, L, htd, hp, ho, hc => by
    unfold tk_all at hc ⊢
    by_cases z : tk_S t p = 4
    · rw [if_pos z]
      exact ⟨ho, rfl⟩
    · rw [if_neg z] at hc ⊢
      by_cases y : (tk_line t p P td).1 = 0
      · rw [if_neg (not_not_intro y)] at hc ⊢
        obtain ⟨f1, f2, f3, f4, f5⟩ := tk_line_ok htd hp hb ho z y
        have r := tk_all_ok hb m _ _ _ (L + 1) f5 f2 f3 hc
        exact ⟨r.1, r.2.trans f4⟩
      · rw [if_pos y] at hc
        exact absurd hc y
theorem qr_line {td : Nat} (hp : p ≤ t.1) (hn : t.1 ≤ 160) (htd : td < 128) (hb : ∀ j, j < t.1 → ∃ c, c < 128 ∧ t.2 j = nI c) (h5 : P.1 ≤ 5) (R : zc_R h0 h t (nI (tk_E t p)) (nI (tk_S t p)) (nI (tk_Q t p)) v L fa fp (nI td) P) : ∃ h', zm_call 48 [.ref 91] h = some (some (.int (zx_b (decide ((tk_line t p P td).1 = 0)))), h') ∧ ((tk_line t p P td).1 = 0 → ∃ k' q' v', zc_R h0 h' t (nI (tk_line t p P td).2.1) k' q' v' L fa fp (nI (tk_line t p P td).2.2.2) (tk_line t p P td).2.2.1) ∧ (¬ (tk_line t p P td).1 = 0 → zc_F h0 h' t (tk_line t p P td).1 (tk_line t p P td).2.1 L) := by
  have h10 : ¬ (1 : Int32) = 0 := by decide
  have hE := tk_E_le hp
  have sl := tk_S_lt (t := t) (p := p)
  obtain ⟨kn, dn⟩ := qr_kind hE.1 hE.2.1 hn (show tk_S t p < 100 by omega) R
  have eN : (if tk_S t p = 0 then tk_nm t.2 (tk_Q t p) (tk_E t p) else 5) = tk_N t p := rfl
  rw [eN] at kn
  obtain ⟨r1, r2, r3, -⟩ := id R
  have rz : ∀ b h, zq_rz (zx_b b) h = some (some (.int (zx_b b)), h) := fun b h => by cases b; exact zq_rz_0; exact zq_rz_1
  by_cases n1 : tk_N t p < 4
  · rw [if_pos n1] at kn
    obtain ⟨h1, e1, e2, e3⟩ := qr_fig2 (kd := nI (tk_N t p)) hE.2.1 hn h5 R
    have er : tk_line t p P td = ((tk_fig t (tk_Q t p) (tk_E t p) (nI (tk_N t p)) P).1, (tk_fig t (tk_Q t p) (tk_E t p) (nI (tk_N t p)) P).2.1, (tk_fig t (tk_Q t p) (tk_E t p) (nI (tk_N t p)) P).2.2, td) := if_pos n1
    rw [er]
    refine ⟨h1, ?_, e2, e3⟩
    rw [zc48, zm_nx, zb48_0, r2, zrrc, kn, zq_bi_o, if_neg (nI_ne4 (by omega)), zm_nx, zb48_11, r2, zrrc, e1, zq_bi_o, rz]
  · rw [if_neg n1] at kn
    have E1 : zm_call 48 [.ref 91] h = (if zx_b (decide (tk_S t p = 0) && tk_is t.2 4 (tk_Q t p) (tk_E t p)) = 0 then zm_den 7 48 34 [.ref 91, .int (-4)] [] h else zm_den 7 48 29 [.ref 91, .int (-4)] [] h) := by
      rw [zc48, zm_nx, zb48_0, r2, zrrc, kn, zq_bi_o, if_pos rfl, zm_nx, zb48_17, r2, zrg0, r1, ztrc, dn, zq_bi_o]
      rfl
    have N4 : tk_N t p = 4 ↔ (decide (tk_S t p = 0) && tk_is t.2 4 (tk_Q t p) (tk_E t p)) = true := by
      unfold tk_N at n1 ⊢
      by_cases z : tk_S t p = 0
      · rw [if_pos z] at n1 ⊢
        rw [decide_eq_true z, Bool.true_and]
        unfold tk_nm at n1 ⊢
        repeat' split at n1
        · exact absurd (by decide) n1
        · exact absurd (by decide) n1
        · exact absurd (by decide) n1
        · exact absurd (by decide) n1
        · rename_i a b c d e
          rw [if_neg a, if_neg b, if_neg c, if_neg d, if_pos e]
          exact ⟨fun _ => e, fun _ => rfl⟩
        · rename_i a b c d e
          rw [if_neg a, if_neg b, if_neg c, if_neg d, if_neg e]
          exact ⟨fun w => absurd w (by decide), fun w => absurd w e⟩
      · rw [if_neg z, decide_eq_false z, Bool.false_and]
        exact ⟨fun w => absurd w (by decide), fun w => absurd w (by decide)⟩
    by_cases n2 : tk_N t p = 4
    · have er : tk_line t p P td = tk_day t (tk_E t p) P td := by
        unfold tk_line
        rw [if_neg n1, if_pos n2]
      rw [er]
      obtain ⟨h1, e1, e2, e3⟩ := qr_day hE.2.1 hn htd hb R
      refine ⟨h1, ?_, e2, e3⟩
      rw [E1, N4.mp n2, if_neg (by decide), zb48_29, r2, zrrc, e1, zq_bi_o, rz]
    · have er : tk_line t p P td = ((if tk_S t p = 3 then 1 else 2), tk_Q t p, P, td) := by
        unfold tk_line
        rw [if_neg n1, if_neg n2]
      rw [er]
      have nz : ¬ (if tk_S t p = 3 then 1 else 2) = 0 := by split <;> decide
      obtain ⟨h1, e1, e2⟩ := qr_rtok (show tk_S t p < 100 by omega) R
      refine ⟨h1, ?_, fun w => absurd w nz, fun _ => ⟨_, _, _, _, _, _, e2⟩⟩
      have b0 : (decide (tk_S t p = 0) && tk_is t.2 4 (tk_Q t p) (tk_E t p)) = false := by
        cases hh : (decide (tk_S t p = 0) && tk_is t.2 4 (tk_Q t p) (tk_E t p)) with
        | false => rfl
        | true => exact absurd (N4.mpr hh) n2
      rw [E1, b0, if_pos (by decide), zb48_34, r2, zrrc, e1, zq_bi_o, zq_rz_0, decide_eq_false nz]
      rfl
theorem qr_all_l (hn : t.1 ≤ 160) (hb : ∀ j, j < t.1 → ∃ c, c < 128 ∧ t.2 j = nI c) : ∀ (m p i : Nat) (h : zm_H) (P : zp_T) (td L : Nat) (k q v : Int32), i + m = 161 → p ≤ t.1 → t.1 - p < m → td < 128 → zp_ok P → zc_R h0 h t (nI p) k q v (nI L) 0 0 (nI td) P → ∃ h', zm_den 8 47 36 [.ref 91, .int (nI i)] [] h = some (none, h') ∧ ∃ a' k' q' v' td' P', zc_R h0 h' t a' k' q' v' (nI (tk_all t m p P td L).2.2.1) (nI (tk_all t m p P td L).1) (nI (tk_all t m p P td L).2.1) td' P' ∧ ((tk_all t m p P td L).1 = 0 → P' = (tk_all t m p P td L).2.2.2) := by
  have h10 : ¬ (1 : Int32) = 0 := by decide
  intro m
  induction m with
  | zero => intro p i h P td L k q v _ _ hm; exact absurd hm (by omega)
  | succ m ih =>
    intro p i h P td L k q v hi hp hm htd ho R
    have sl := tk_S_lt (t := t) (p := p)
    obtain ⟨r1, r2, -⟩ := id R
    obtain ⟨h1, v1, e1, R1, -⟩ := qr_adv hp hn R
    obtain ⟨x1, x2, -⟩ := id R1
    have E1 : zm_den 8 47 36 [.ref 91, .int (nI i)] [] h = (if nI (tk_S t p) = (4 : Int32) then zm_den 8 47 68 [.ref 91, .int (nI i)] [] h1 else zm_den 8 47 61 [.ref 91, .int (nI i)] [] h1) := by
      rw [zb47_36, if_neg (show ¬ (160 : Int32) < nI i from nI_nlt (a := 160) (by omega) (by decide)), zm_nx, zb47_43]
      simp only [r2, zrg0, r1, ztrc, e1, zq_bv_o, x2, x1, ztg3, zm_nx]
    by_cases z : tk_S t p = 4
    · have er : tk_all t (m + 1) p P td L = (0, 0, L, P) := if_pos z
      rw [er]
      refine ⟨h1, ?_, _, _, _, _, _, P, R1, fun _ => rfl⟩
      rw [E1, if_pos (show nI (tk_S t p) = 4 by rw [z]; rfl), zb47_68]
    · obtain ⟨h2, e2, O2, F2⟩ := qr_line hp hn htd hb ho.1 R1
      rw [if_neg (show ¬ nI (tk_S t p) = (4 : Int32) from fun w => z ((nI_eq (b := 4) (by omega) (by decide)).mp w)), zb47_61, x2, zrrc, e2, zq_bi_o] at E1
      by_cases y : (tk_line t p P td).1 = 0
      · have er : tk_all t (m + 1) p P td L = tk_all t m (tk_line t p P td).2.1 (tk_line t p P td).2.2.1 (tk_line t p P td).2.2.2 (L + 1) := by
          show (if tk_S t p = 4 then _ else _) = _
          rw [if_neg z, if_neg (not_not_intro y)]
        rw [er]
        obtain ⟨k2, q2, v2, R2⟩ := O2 y
        obtain ⟨-, y2, -⟩ := id R2
        obtain ⟨f1, f2, f3, f4, f5⟩ := tk_line_ok htd hp hb ho z y
        obtain ⟨h', g1, g2⟩ := ih _ (i + 1) _ _ _ (L + 1) k2 q2 v2 (by omega) f2 (by omega) f5 f3 (zc_R93 (L' := nI (L + 1)) (fa' := 0) (fp' := 0) (td' := nI (tk_line t p P td).2.2.2) R2)
        refine ⟨h', ?_, g2⟩
        rw [E1, decide_eq_true y, if_pos (by decide), zm_nx, zb47_69]
        simp only [y2, zrg2, zrp2, nI_1, zm_nx]
        exact g1
      · have er : tk_all t (m + 1) p P td L = ((tk_line t p P td).1, (tk_line t p P td).2.1, L, P) := by
          show (if tk_S t p = 4 then _ else _) = _
          rw [if_neg z, if_pos y]
        rw [er]
        obtain ⟨a2, k2, q2, v2, td2, P2, R2⟩ := F2 y
        refine ⟨h2, ?_, a2, k2, q2, v2, td2, P2, R2, fun w => absurd w y⟩
        rw [E1, decide_eq_false y, if_neg (by decide), zm_nx, zb47_68]
end ZT82
