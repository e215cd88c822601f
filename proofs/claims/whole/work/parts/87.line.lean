def tk_sg (t : tk_T) (s : tk_M) : tk_M := match s with
  | .inl p => if tk_g t p = 0 then .inl (tk_E t p) else .inr (tk_g t p, tk_Q t p)
  | .inr c => .inr c
def tk_md (c q : Nat) : tk_M := if c = 0 then .inl q else .inr (c, q)
section ZT87
variable {h h0 : zm_H} {t : tk_T} {A0 g0 A r : Nat → Int32} {p : Nat} {P : zp_T}
theorem tk_nx_l {m : Int32} (z : tk_n t p m = 0) : tk_nx t (.inl p) m = .inl (tk_E t p) := if_pos z
theorem tk_nx_r {m : Int32} (z : ¬ tk_n t p m = 0) : tk_nx t (.inl p) m = .inr (tk_n t p m, tk_Q t p) := if_neg z
theorem tk_nx_i {m : Int32} {c : Nat × Nat} : tk_nx t (.inr c) m = .inr c := rfl
theorem tk_nv_l {m : Int32} (z : tk_n t p m = 0) : tk_nv t (.inl p) m = tk_V t p := if_pos z
theorem tk_md_0 {q : Nat} : tk_md 0 q = .inl q := rfl
theorem tk_md_n {c q : Nat} (z : ¬ c = 0) : tk_md c q = .inr (c, q) := if_neg z
theorem tk_fig_m {q0 : Nat} {kd : Int32} (n5 : ¬ P.1 = 5) : tk_sg t (tk_nx t (tk_nx t (.inl p) 99) 40) = tk_md (tk_fig t q0 p kd P).1 (tk_fig t q0 p kd P).2.1 ∧ ((tk_fig t q0 p kd P).1 = 0 → (tk_fig t q0 p kd P).2.2 = zp_add P (kd, tk_nv t (.inl p) 99, tk_nv t (tk_nx t (.inl p) 99) 40)) := by
  unfold tk_fig
  rw [if_neg n5]
  by_cases z1 : tk_n t p 99 = 0
  · rw [if_neg (not_not_intro z1), tk_nx_l z1, tk_nv_l z1]
    by_cases z2 : tk_n t (tk_E t p) 40 = 0
    · rw [if_neg (not_not_intro z2), tk_nx_l z2, tk_nv_l z2]
      by_cases z3 : tk_g t (tk_E t (tk_E t p)) = 0
      · rw [if_neg (not_not_intro z3)]
        exact ⟨if_pos z3, fun _ => rfl⟩
      · rw [if_pos z3]
        exact ⟨(show tk_sg t (.inl (tk_E t (tk_E t p))) = _ from if_neg z3).trans (tk_md_n z3).symm, fun w => absurd w z3⟩
    · rw [if_pos z2, tk_nx_r z2]
      exact ⟨(tk_md_n z2).symm, fun w => absurd w z2⟩
  · rw [if_pos z1, tk_nx_r z1, tk_nx_i]
    exact ⟨(tk_md_n z1).symm, fun w => absurd w z1⟩
theorem tk_day_m {td d : Nat} (hd : d < 7) (ed : tk_nv t (tk_t t p td) 6 = nI d) : tk_sg t (tk_nx t (tk_nx t (tk_nx t (tk_t t p td) 6) 9) 8) = tk_md (tk_day t p P td).1 (tk_day t p P td).2.1 ∧ ((tk_day t p P td).1 = 0 → (tk_day t p P td).2.2.1 = tk_pd (tk_pw P d (tk_nv t (tk_nx t (tk_t t p td) 6) 9)) d (tk_nv t (tk_nx t (tk_nx t (tk_t t p td) 6) 9) 8) ∧ (tk_day t p P td).2.2.2 = td ||| 2 ^ d) := by
  unfold tk_day
  unfold tk_t at ed ⊢
  by_cases z1 : tk_n t p 6 = 0
  · rw [if_neg (not_not_intro z1)]
    by_cases zt : td / 2 ^ tk_dn t p % 2 = 1
    · rw [if_pos ⟨z1, zt⟩, if_pos zt, tk_nx_i, tk_nx_i, tk_nx_i]
      exact ⟨rfl, fun w => absurd (show (4 : Nat) = 0 from w) (by decide)⟩
    · rw [if_neg (fun w => zt w.2)] at ed ⊢
      rw [tk_nv_l z1] at ed
      have edn : tk_dn t p = d := by
        unfold tk_dn
        rw [ed, nI_clamp (by omega)]
      rw [if_neg zt, tk_nx_l z1, edn]
      by_cases z2 : tk_n t (tk_E t p) 9 = 0
      · rw [if_neg (not_not_intro z2), tk_nx_l z2, tk_nv_l z2]
        by_cases z3 : tk_n t (tk_E t (tk_E t p)) 8 = 0
        · rw [if_neg (not_not_intro z3), tk_nx_l z3, tk_nv_l z3]
          by_cases z4 : tk_g t (tk_E t (tk_E t (tk_E t p))) = 0
          · rw [if_neg (not_not_intro z4)]
            exact ⟨if_pos z4, fun _ => ⟨rfl, rfl⟩⟩
          · rw [if_pos z4]
            exact ⟨(show tk_sg t (.inl (tk_E t (tk_E t (tk_E t p)))) = _ from if_neg z4).trans (tk_md_n z4).symm, fun w => absurd w z4⟩
        · rw [if_pos z3, tk_nx_r z3]
          exact ⟨(tk_md_n z3).symm, fun w => absurd w z3⟩
      · rw [if_pos z2, tk_nx_r z2, tk_nx_i]
        exact ⟨(tk_md_n z2).symm, fun w => absurd w z2⟩
  · rw [if_neg (fun w => z1 w.1), if_pos z1, tk_nx_r z1, tk_nx_i, tk_nx_i]
    exact ⟨(tk_md_n z1).symm, fun w => absurd w z1⟩
theorem qm_sign {x1 : Int32} {s : tk_M} (B : zo_B h0 t A0) (Q : zo_Q h0 h A0 g0 A r) (S : zo_St t A s) : ∃ h' A', (if ¬ A 6 = 0 then zm_den 5 132 81 [.ref 137, .int x1] [] h else zm_den 5 132 68 [.ref 137, .int x1] [] h) = some (none, h') ∧ zo_Q h0 h' A0 g0 A' r ∧ zo_St t A' (tk_sg t s) ∧ A' 2 = A 2 := by
  have h10 : ¬ (1 : Int32) = 0 := by decide
  match s, S with
  | .inr c, S =>
    obtain ⟨s6, s7, s0, s1⟩ := S
    have n6 : ¬ A 6 = 0 := by rw [s6]; exact nI_ne0 s0 (by omega)
    refine ⟨h, A, ?_, Q, ⟨s6, s7, s0, s1⟩, rfl⟩
    rw [if_pos n6, zb132_81, Q.1.1, zq_rc_o, qm_step1 Q s6 s0 s1, zq_bv_o]
  | .inl p, S =>
    obtain ⟨hp, l8, l9, lw, lr⟩ := S
    have hE := tk_E_le hp
    by_cases z : tk_S t p = 3
    · obtain ⟨s6, s7⟩ := lw z
      have eg : tk_g t p = 1 := by
        unfold tk_g
        rw [if_neg (by omega), if_pos z]
      refine ⟨h, A, ?_, Q, ?_, rfl⟩
      · rw [if_pos (by rw [s6]; exact h10), zb132_81, Q.1.1, zq_rc_o, qm_step1 (c := 1) Q s6 (by decide) (by decide), zq_bv_o]
      · rw [show tk_sg t (.inl p) = .inr (1, tk_Q t p) by
          show (if tk_g t p = 0 then _ else _) = _
          rw [eg, if_neg (by decide)]]
        exact ⟨s6, s7, (show 0 < 1 by decide), (show 1 < 100 by decide)⟩
    · obtain ⟨s6, s10, s11⟩ := lr z
      have sl := tk_S_lt (t := t) (p := p)
      by_cases y : tk_S t p = 2
      · have k3 : A 10 = 3 := by rw [s10, y]; decide
        have eg : tk_g t p = 0 := if_pos y
        obtain ⟨h', A', f1, Q', LA', f2⟩ := qm_step B hE.2.1 Q s6 l8
        refine ⟨h', A', ?_, Q', ?_, f2⟩
        · rw [if_neg (not_not_intro s6), zb132_68, Q.1.1, zoi10, k3, if_pos rfl, zm_nx, zb132_81, Q.1.1, zq_rc_o, f1, zq_bv_o]
        · rw [show tk_sg t (.inl p) = .inl (tk_E t p) from if_pos eg]
          exact ⟨hE.2.1, LA'⟩
      · have k3 : ¬ A 10 = 3 := by
          rw [s10]
          have : ∀ s, s < 5 → ¬ s = 2 → ¬ s = 3 → ¬ nI (tk_K s) = (3 : Int32) := by decide
          exact this _ sl y z
        have eg : tk_g t p = 2 := by
          unfold tk_g
          rw [if_neg y, if_neg z]
        obtain ⟨h', A', f1, Q', f6, f7, fk⟩ := qm_fails (c := 2) Q s6
        refine ⟨h', A', ?_, Q', ?_, fk 2 (by decide) (by decide)⟩
        · rw [if_neg (not_not_intro s6), zb132_68, Q.1.1, zoi10, if_neg k3, zm_nx, zb132_76, Q.1.1, zq_rc_o, f1, zq_bv_o, zm_nx, zb132_81, Q'.1.1, zq_rc_o, qm_step1 (c := 2) Q' f6 (by decide) (by decide), zq_bv_o]
        · rw [show tk_sg t (.inl p) = .inr (2, tk_Q t p) by
            show (if tk_g t p = 0 then _ else _) = _
            rw [eg, if_neg (by decide)]]
          exact ⟨f6, by rw [f7]; exact l9, (show 0 < 2 by decide), (show 2 < 100 by decide)⟩
/-- what is broken stays so -/
theorem qm_line_b {x1 : Int32} {c : Nat} (Q : zo_Q h0 h A0 g0 A r) (h6 : A 6 = nI c) (hc : 0 < c) (hc2 : c < 100) : zm_den 5 132 44 [.ref 137, .int x1] [] h = some (none, h) := by
  rw [zb132_44, Q.1.1, zq_rc_o, qm_step1 Q h6 hc hc2, zq_bv_o, Q.1.1, zoi6, h6, if_neg (nI_nle hc (by omega)), zm_nx, zb132_55]
def zo_ZL (t : tk_T) (A r : Nat → Int32) (L : Nat × Nat × zp_T × Nat) : Prop := zo_St t A (tk_md L.1 L.2.1) ∧ (L.1 = 0 → A 2 = nI L.2.2.2 ∧ zs_P r 0 L.2.2.1)
theorem qm_line {td : Nat} (B : zo_B h0 t A0) (B2 : zo_B2 h0) (hp : p ≤ t.1) (htd : td < 128) (Q : zo_Q h0 h A0 g0 A r) (LA : zo_LA t A p) (n3 : ¬ tk_S t p = 3) (h2 : A 2 = nI td) (hP : zs_P r 0 P) (hn : P.1 ≤ 5) : ∃ h' A' r', zm_call 132 [.ref 137] h = some (none, h') ∧ zo_Q h0 h' A0 g0 A' r' ∧ zo_ZL t A' r' (tk_line t p P td) := by
  have h10 : ¬ (1 : Int32) = 0 := by decide
  have hE := tk_E_le hp
  have nm := qm_name B B2 hp Q LA n3
  have Nl := tk_N_le (t := t) (p := p)
  obtain ⟨l8, l9, -, lr⟩ := id LA
  obtain ⟨s6, s10, s11⟩ := lr n3
  have m0 := fun (x : Int32) => qm_in (h := h) x 0 4 (0 : Int64) (4 : Int64) (by decide) (by decide)
  by_cases n5 : tk_N t p < 5
  · rw [if_pos n5] at nm
    have iw : ¬ zw_in (nI (tk_N t p)) 0 4 = 0 := by
      unfold zw_in
      rw [if_neg (nI_pos (by omega)), if_neg (show ¬ (4 : Int32) < nI (tk_N t p) from nI_nlt (a := 4) (by omega) (by decide))]
      exact h10
    have E1 : zm_call 132 [.ref 137] h = zm_den 5 132 23 [.ref 137, .int (nI (tk_N t p))] [] h := by
      rw [zc132, zm_nx, zb132_0, Q.1.1, zq_rc_o, nm, zq_bi_o, m0, zq_bi_o, if_pos iw, zm_nx]
    have G : ∀ {h1 : zm_H} {A1 : Nat → Int32}, zo_Q h0 h1 A0 g0 A1 r → zo_St t A1 (.inl (tk_E t p)) → A1 2 = nI td → ¬ (tk_N t p < 4 ∧ P.1 = 5) → ∃ h' A' r', (if A1 6 ≤ 0 then zm_den 5 132 56 [.ref 137, .int (nI (tk_N t p))] [] h1 else zm_den 5 132 55 [.ref 137, .int (nI (tk_N t p))] [] h1) = some (none, h') ∧ zo_Q h0 h' A0 g0 A' r' ∧ zo_ZL t A' r' (tk_line t p P td) := by
      intro h1 A1 Q1 S1 t1 n15
      -- broken: nothing more happens, and the signs of it agree
      have keep : (if A1 6 ≤ 0 then zm_den 5 132 56 [.ref 137, .int (nI (tk_N t p))] [] h1 else zm_den 5 132 55 [.ref 137, .int (nI (tk_N t p))] [] h1) = if tk_S t (tk_E t p) = 3 then some (none, h1) else zm_den 5 132 56 [.ref 137, .int (nI (tk_N t p))] [] h1 := by
        obtain ⟨-, -, -, lw, lr'⟩ := S1
        by_cases z : tk_S t (tk_E t p) = 3
        · rw [if_pos z, (lw z).1, if_neg (by decide), zb132_55]
        · rw [if_neg z, (lr' z).1, if_pos (by decide)]
      rw [keep]
      by_cases n4 : tk_N t p < 4
      · have p5 : ¬ P.1 = 5 := fun w => n15 ⟨n4, w⟩
        have er : tk_line t p P td = ((tk_fig t (tk_Q t p) (tk_E t p) (nI (tk_N t p)) P).1, (tk_fig t (tk_Q t p) (tk_E t p) (nI (tk_N t p)) P).2.1, (tk_fig t (tk_Q t p) (tk_E t p) (nI (tk_N t p)) P).2.2, td) := if_pos n4
        obtain ⟨m1, m2⟩ := tk_fig_m (t := t) (p := tk_E t p) (q0 := tk_Q t p) (kd := nI (tk_N t p)) p5
        rw [er]
        by_cases z : tk_S t (tk_E t p) = 3
        · have en : tk_n t (tk_E t p) 99 = 1 := by
            unfold tk_n
            rw [if_neg (by omega), if_pos z]
          have ef : tk_fig t (tk_Q t p) (tk_E t p) (nI (tk_N t p)) P = (1, tk_Q t (tk_E t p), P) := by
            unfold tk_fig
            rw [if_neg p5, en, if_pos (by decide)]
          rw [if_pos z, ef]
          obtain ⟨s6', s7'⟩ := S1.2.2.2.1 z
          exact ⟨h1, A1, r, rfl, Q1, ⟨s6', s7', (show 0 < 1 by decide), (show 1 < 100 by decide)⟩, fun w => absurd (show (1 : Nat) = 0 from w) (by decide)⟩
        · rw [if_neg z]
          obtain ⟨h3, A3, r3, e3, Q3, S3, t3, P3⟩ := qm_more_f (kd := tk_N t p) n4 B Q1 S1 hP (by omega)
          obtain ⟨h4, A4, e4, Q4, S4, t4⟩ := qm_sign (x1 := nI (tk_N t p)) B Q3 S3
          refine ⟨h4, A4, r3, ?_, Q4, by rw [m1] at S4; exact S4, fun w => ⟨by rw [t4, t3]; exact t1, by
            show zs_P r3 0 (tk_fig t (tk_Q t p) (tk_E t p) (nI (tk_N t p)) P).2.2
            rw [m2 w]; exact P3⟩⟩
          rw [zb132_56, Q1.1.1, zq_rc_o, e3, zq_bv_o, Q3.1.1, zoi6, zm_nx, zm_nx]
          exact e4
      · have N4 : tk_N t p = 4 := by omega
        have er : tk_line t p P td = tk_day t (tk_E t p) P td := by
          unfold tk_line
          rw [if_neg n4, if_pos N4]
        rw [er, N4]
        by_cases z : tk_S t (tk_E t p) = 3
        · have en : tk_n t (tk_E t p) 6 = 1 := by
            unfold tk_n
            rw [if_neg (by omega), if_pos z]
          have ef : tk_day t (tk_E t p) P td = (1, tk_Q t (tk_E t p), P, td) := by
            unfold tk_day
            rw [en, if_pos (by decide)]
          rw [if_pos z, ef]
          obtain ⟨s6', s7'⟩ := S1.2.2.2.1 z
          exact ⟨h1, A1, r, rfl, Q1, ⟨s6', s7', (show 0 < 1 by decide), (show 1 < 100 by decide)⟩, fun w => absurd (show (1 : Nat) = 0 from w) (by decide)⟩
        · rw [if_neg z]
          obtain ⟨d, h3, A3, r3, hd, ed, e3, Q3, S3, t3, P3⟩ := qm_more_d htd B Q1 S1 t1 hP hn
          obtain ⟨m1, m2⟩ := tk_day_m (P := P) hd ed
          obtain ⟨h4, A4, e4, Q4, S4, t4⟩ := qm_sign (x1 := nI 4) B Q3 S3
          refine ⟨h4, A4, r3, ?_, Q4, by rw [m1] at S4; exact S4, fun w => ⟨by rw [t4, t3, (m2 w).2], by rw [(m2 w).1]; exact P3⟩⟩
          rw [zb132_56, Q1.1.1, zq_rc_o, e3, zq_bv_o, Q3.1.1, zoi6, zm_nx, zm_nx]
          exact e4
    have G44 : ¬ (tk_N t p < 4 ∧ P.1 = 5) → ∃ h' A' r', zm_den 5 132 44 [.ref 137, .int (nI (tk_N t p))] [] h = some (none, h') ∧ zo_Q h0 h' A0 g0 A' r' ∧ zo_ZL t A' r' (tk_line t p P td) := by
      intro n15
      obtain ⟨h1, A1, f1, Q1, LA1, f2⟩ := qm_step B hE.2.1 Q s6 l8
      obtain ⟨h', A', r', g1, g2, g3⟩ := G Q1 ⟨hE.2.1, LA1⟩ (f2.trans h2) n15
      refine ⟨h', A', r', ?_, g2, g3⟩
      rw [zb132_44, Q.1.1, zq_rc_o, f1, zq_bv_o, Q1.1.1, zoi6, zm_nx, zm_nx]
      exact g1
    have r15 : r 15 = nI P.1 := hP.1
    have c0 : zm_g h (137 + 2) = .inl (0, 31, .inl r) := Q.2.1
    have al15 : ∀ (w : Nat → Int32) (f : Int32 → zm_O), zq_al (.inl (0, 31, .inl w)) 0 (15 : Int32) f = f (w 15) := fun w f => zq_al_o (j := 15) (by decide) (by decide)
    by_cases n4 : tk_N t p < 4
    · have E2 : zm_call 132 [.ref 137] h = if ¬ nI P.1 = (5 : Int32) then zm_den 5 132 44 [.ref 137, .int (nI (tk_N t p))] [] h else zm_den 5 132 39 [.ref 137, .int (nI (tk_N t p))] [] h := by
        rw [E1, zb132_23, if_neg (show ¬ (3 : Int32) < nI (tk_N t p) from nI_nlt (a := 3) (by omega) (by decide)), zm_nx, zb132_28, Q.1.1, zor1, c0, al15, r15, zm_nx, zm_nx]
      by_cases p5 : P.1 = 5
      · obtain ⟨h', A', f1, Q', f6, f7, fk⟩ := qm_fails (c := 5) Q s6
        have er : tk_line t p P td = (5, tk_Q t p, P, td) := by
          unfold tk_line tk_fig
          rw [if_pos n4, if_pos p5]
        rw [er]
        refine ⟨h', A', r, ?_, Q', ⟨f6, by rw [f7]; exact l9, (show 0 < 5 by decide), (show 5 < 100 by decide)⟩, fun w => absurd (show (5 : Nat) = 0 from w) (by decide)⟩
        rw [E2, p5, if_neg (by decide), zb132_39, Q.1.1, zq_rc_o, f1, zq_bv_o, zm_nx]
        exact qm_line_b (c := 5) Q' f6 (by decide) (by decide)
      · obtain ⟨h', A', r', g1, g2, g3⟩ := G44 (fun w => p5 w.2)
        refine ⟨h', A', r', ?_, g2, g3⟩
        rw [E2, if_pos (show ¬ nI P.1 = (5 : Int32) from fun w => p5 ((nI_eq (b := 5) (by omega) (by decide)).mp w))]
        exact g1
    · obtain ⟨h', A', r', g1, g2, g3⟩ := G44 (fun w => n4 w.1)
      refine ⟨h', A', r', ?_, g2, g3⟩
      rw [E1, zb132_23, if_pos (show (3 : Int32) < nI (tk_N t p) from nI_lt (a := 3) (by omega) (by omega)), zm_nx]
      exact g1
  · rw [if_neg n5] at nm
    obtain ⟨h', A', f1, Q', f6, f7, fk⟩ := qm_fails (c := 2) Q s6
    have er : tk_line t p P td = (2, tk_Q t p, P, td) := by
      unfold tk_line
      rw [if_neg (by omega), if_neg (by omega), if_neg n3]
    rw [er]
    refine ⟨h', A', r, ?_, Q', ⟨f6, by rw [f7]; exact l9, (show 0 < 2 by decide), (show 2 < 100 by decide)⟩, fun w => absurd (show (2 : Nat) = 0 from w) (by decide)⟩
    rw [zc132, zm_nx, zb132_0, Q.1.1, zq_rc_o, nm, zq_bi_o, m0, zq_bi_o, show zw_in (-4) 0 4 = 0 by decide, if_neg (by decide), zm_nx, zb132_17, Q.1.1, zq_rc_o, f1, zq_bv_o]
theorem qm_all (B : zo_B h0 t A0) (B2 : zo_B2 h0) {x2 : Int32} : ∀ (m p : Nat) (h : zm_H) (A r : Nat → Int32) (P : zp_T) (td L : Nat), p ≤ t.1 → t.1 - p < m → td < 128 → zp_ok P → zo_Q h0 h A0 g0 A r → zo_LA t A p → A 2 = nI td → zs_P r 0 P → ∃ h' A' r' x1, zm_den 6 133 42 [.ref 137, .int (nI L), .int x2] [] h = zm_den 6 133 66 [.ref 137, .int x1, .int x2] [] h' ∧ zo_Q h0 h' A0 g0 A' r' ∧ A' 6 = nI (tk_all t m p P td L).1 ∧ (tk_all t m p P td L).1 < 100 ∧ (¬ (tk_all t m p P td L).1 = 0 → A' 7 = nI (tk_all t m p P td L).2.1) ∧ ((tk_all t m p P td L).1 = 0 → x1 = nI (tk_all t m p P td L).2.2.1 ∧ zs_P r' 0 (tk_all t m p P td L).2.2.2) := by
  have h10 : ¬ (1 : Int32) = 0 := by decide
  intro m
  induction m with
  | zero => intro p h A r P td L _ hm; exact absurd hm (by omega)
  | succ m ih =>
    intro p h A r P td L hp hm htd ho Q LA h2 hP
    obtain ⟨l8, l9, lw, lr⟩ := id LA
    have sl := tk_S_lt (t := t) (p := p)
    by_cases z3 : tk_S t p = 3
    · obtain ⟨s6, s7⟩ := lw z3
      have N5 : tk_N t p = 5 := if_neg (by omega)
      have el : tk_line t p P td = (1, tk_Q t p, P, td) := by
        unfold tk_line
        rw [if_neg (by omega), if_neg (by omega), if_pos z3]
      have er : tk_all t (m + 1) p P td L = (1, tk_Q t p, L, P) := by
        show (if tk_S t p = 4 then _ else _) = _
        rw [if_neg (by omega), el, if_pos (show ¬ (1 : Nat) = 0 by decide)]
      rw [er]
      refine ⟨h, A, r, nI L, ?_, Q, s6, (show 1 < 100 by decide), fun _ => s7, fun w => absurd (show (1 : Nat) = 0 from w) (by decide)⟩
      rw [zb133_42, Q.1.1, zoi6, s6, if_pos h10, zm_nx]
    · obtain ⟨s6, s10, s11⟩ := lr z3
      by_cases z4 : tk_S t p = 4
      · have er : tk_all t (m + 1) p P td L = (0, 0, L, P) := if_pos z4
        have k0 : A 10 = 0 := by rw [s10, z4]; decide
        rw [er]
        refine ⟨h, A, r, nI L, ?_, Q, s6, (show 0 < 100 by decide), fun w => absurd rfl w, fun _ => ⟨rfl, hP⟩⟩
        rw [zb133_42, Q.1.1, zoi6, s6, if_neg (by decide), zm_nx, zb133_49, Q.1.1, zoi10, k0, if_pos rfl, zm_nx]
      · have k0 : ¬ A 10 = 0 := by
          rw [s10]
          have : ∀ s, s < 5 → ¬ s = 4 → ¬ nI (tk_K s) = (0 : Int32) := by decide
          exact this _ sl z4
        obtain ⟨h1, A1, r1, e1, Q1, Z1, Z2⟩ := qm_line B B2 hp htd Q LA z3 h2 hP ho.1
        have E1 : zm_den 6 133 42 [.ref 137, .int (nI L), .int x2] [] h = zm_den 6 133 42 [.ref 137, .int (nI (L + 1)), .int x2] [] h1 := by
          rw [zb133_42, Q.1.1, zoi6, s6, if_neg (by decide), zm_nx, zb133_49, Q.1.1, zoi10, if_neg k0, zm_nx, zb133_56, Q.1.1, zq_rc_o, e1, zq_bv_o, zm_nx, nI_1]
        by_cases y : (tk_line t p P td).1 = 0
        · have er : tk_all t (m + 1) p P td L = tk_all t m (tk_line t p P td).2.1 (tk_line t p P td).2.2.1 (tk_line t p P td).2.2.2 (L + 1) := by
            show (if tk_S t p = 4 then _ else _) = _
            rw [if_neg z4, if_neg (not_not_intro y)]
          rw [er]
          rw [y, tk_md_0] at Z1
          obtain ⟨f1, f2, f3, f4, f5⟩ := tk_line_ok htd hp B.2.2.1 ho z4 y
          obtain ⟨h', A', r', x1, g1, g2⟩ := ih _ _ _ _ _ _ (L + 1) f2 (by omega) f5 f3 Q1 Z1.2 (Z2 y).1 (Z2 y).2
          exact ⟨h', A', r', x1, E1.trans g1, g2⟩
        · have er : tk_all t (m + 1) p P td L = ((tk_line t p P td).1, (tk_line t p P td).2.1, L, P) := by
            show (if tk_S t p = 4 then _ else _) = _
            rw [if_neg z4, if_pos y]
          rw [er]
          rw [tk_md_n y] at Z1
          obtain ⟨c6, c7, c1, c2⟩ := Z1
          refine ⟨h1, A1, r1, nI (L + 1), ?_, Q1, c6, c2, fun _ => c7, fun w => absurd w y⟩
          rw [E1, zb133_42, Q1.1.1, zoi6, c6, if_pos (nI_ne0 c1 (by omega)), zm_nx]
end ZT87
