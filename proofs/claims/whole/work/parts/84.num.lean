abbrev tk_M : Type := Nat ⊕ (Nat × Nat)
def zo_St (t : tk_T) (A : Nat → Int32) (s : tk_M) : Prop := match s with
  | .inl p => p ≤ t.1 ∧ zo_LA t A p
  | .inr c => A 6 = nI c.1 ∧ A 7 = nI c.2 ∧ 0 < c.1 ∧ c.1 < 100
def tk_nx (t : tk_T) (s : tk_M) (m : Int32) : tk_M := match s with
  | .inl p => if tk_n t p m = 0 then .inl (tk_E t p) else .inr (tk_n t p m, tk_Q t p)
  | .inr c => .inr c
def tk_nv (t : tk_T) (s : tk_M) (m : Int32) : Int32 := match s with
  | .inl p => if tk_n t p m = 0 then tk_V t p else 0
  | .inr _ => 0
theorem tk_n_lt {t : tk_T} {p : Nat} {m : Int32} : tk_n t p m < 4 := by
  unfold tk_n
  repeat' split
  all_goals decide
section ZT84
variable {h h0 : zm_H} {t : tk_T} {A0 g0 A r : Nat → Int32} {p : Nat}
theorem tk_so_2 (x : Int32) (y0 : ¬ tk_so x = 0) (y1 : ¬ tk_so x = 1) : tk_so x = tk_s2 x := by
  have e : tk_so x = tk_s1 x := by
    unfold tk_so at y0 ⊢
    by_cases z : x < 97
    · rw [if_pos z]
    · rw [if_neg z] at y0 ⊢
      by_cases y : 122 < x
      · rw [if_pos y]
      · rw [if_neg y] at y0
        exact absurd rfl y0
  rw [e] at y1 ⊢
  unfold tk_s1 at y1 ⊢
  by_cases z : x < 48
  · rw [if_pos z]
  · rw [if_neg z] at y1 ⊢
    by_cases y : 57 < x
    · rw [if_pos y]
    · rw [if_neg y] at y1
      exact absurd rfl y1
/-- after the blanks -/
def zo_W (t : tk_T) (A3 : Nat → Int32) (p : Nat) (a2 : Int32) : Prop := A3 8 = nI (tk_Q t p) ∧ A3 9 = nI (tk_Q t p) ∧ A3 11 = 0 ∧ A3 6 = 0 ∧ A3 2 = a2
theorem qm_step0 (B : zo_B h0 t A0) (hp : p ≤ t.1) (Q : zo_Q h0 h A0 g0 A r) (h6 : A 6 = 0) (h8 : A 8 = nI p) : ∃ h3 A3, zo_Q h0 h3 A0 g0 A3 r ∧ zo_W t A3 p (A 2) ∧ zm_call 129 [.ref 137] h = (if ¬ tk_by t (tk_Q t p) = (-4 : Int32) then zm_den 2 129 70 [.ref 137, .int (tk_by t (tk_Q t p))] [] h3 else zm_den 2 129 62 [.ref 137, .int (tk_by t (tk_Q t p))] [] h3) := by
  have b2 := B.2.1
  have hQ := tk_Q_le hp
  obtain ⟨h1, A1, e1, Q1, a8, ak⟩ := qm_st1 (v1 := .null) B (t.1 - p) p h A (by omega) Q h8
  have a8' : A1 8 = nI (tk_Q t p) := a8
  have Q2 := zo_Qs (c := 9) (x := nI (tk_Q t p)) Q1 (by decide)
  have u8 : upd A1 9 (nI (tk_Q t p)) 8 = nI (tk_Q t p) := by rw [pk_un (by decide)]; exact a8'
  have by2 := qm_byte (p := tk_Q t p) B (by omega) Q2
  have Q3 := zo_Qs (c := 11) (x := 0) Q2 (by decide)
  have w8 : upd (upd A1 9 (nI (tk_Q t p))) 11 0 8 = nI (tk_Q t p) := by rw [pk_un (by decide)]; exact u8
  have w9 : upd (upd A1 9 (nI (tk_Q t p))) 11 0 9 = nI (tk_Q t p) := by rw [pk_un (by decide), pk_us]
  have w11 : upd (upd A1 9 (nI (tk_Q t p))) 11 0 11 = 0 := by rw [pk_us]
  have w6 : upd (upd A1 9 (nI (tk_Q t p))) 11 0 6 = 0 := by rw [pk_un (by decide), pk_un (by decide), ak 6 (by decide)]; exact h6
  have w2 : upd (upd A1 9 (nI (tk_Q t p))) 11 0 2 = A 2 := by rw [pk_un (by decide), pk_un (by decide), ak 2 (by decide)]
  refine ⟨_, _, Q3, ⟨w8, w9, w11, w6, w2⟩, ?_⟩
  rw [zc129, zm_nx, zb129_0, Q.1.1, zoi6, h6]
  rw [if_pos (by decide), zm_nx, e1, zb129_34]
  rw [Q1.1.1, zoi8, a8', zop9, zg_ss, zoi8, u8, zq_rc_o, by2, zq_bi_o, zg_ss, zop11, zm_nx, zm_nx]
theorem qm_stepN {h3 : zm_H} {A3 : Nat → Int32} {a2 : Int32} (B : zo_B h0 t A0) (hp : p ≤ t.1) (Q3' : zo_Q h0 h3 A0 g0 A3 r) (W : zo_W t A3 p a2) (z : tk_Q t p < t.1) (y0 : tk_so (t.2 (tk_Q t p)) = 0) : ∃ h' A', zm_den 2 129 84 [.ref 137, .int (t.2 (tk_Q t p))] [] h3 = some (none, h') ∧ zo_Q h0 h' A0 g0 A' r ∧ zo_LA t A' p ∧ A' 2 = a2 := by
  obtain ⟨w8, w9, w11, w6, w2⟩ := W
  have b2 := B.2.1
  have n4 : ¬ tk_S0 t p = 4 := fun q => tk_S0_4.mp q z
  have s0 : tk_S0 t p = tk_so (t.2 (tk_Q t p)) := if_pos z
  obtain ⟨h4, A4, f1, Q4, f8, fk⟩ := qm_st2 (x1 := t.2 (tk_Q t p)) B (t.1 - tk_Q t p) (tk_Q t p) h3 A3 (by omega) Q3' w8
  have Q5 := zo_Qs (c := 10) (x := 1) Q4 (by decide)
  have eE : tk_rn t.2 0 (t.1 - tk_Q t p) (tk_Q t p) = tk_E t p := by
    rw [show t.1 - tk_Q t p = (t.1 - (tk_Q t p + 1)) + 1 by omega]
    unfold tk_E
    rw [if_neg n4, if_pos (by omega), s0, y0]
    show (if tk_so (t.2 (tk_Q t p)) = 0 then _ else _) = _
    rw [if_pos y0]
  have eS : tk_S t p = 0 := by
    unfold tk_S
    rw [if_neg (by omega), s0, y0]
  refine ⟨_, _, ?_, Q5, ⟨?_, ?_, fun w => absurd w (by omega), fun _ => ⟨?_, ?_, fun w => absurd w (by omega)⟩⟩, ?_⟩
  · rw [f1, zb129_118, Q4.1.1, zop10, zm_nx, zb129_269]
  · rw [pk_un (by decide), f8, eE]
  · rw [pk_un (by decide), fk 9 (by decide), w9]
  · rw [pk_un (by decide), fk 6 (by decide), w6]
  · rw [pk_us, eS]; decide
  · rw [pk_un (by decide), fk 2 (by decide), w2]
theorem qm_stepD {h3 : zm_H} {A3 : Nat → Int32} {a2 : Int32} (B : zo_B h0 t A0) (hp : p ≤ t.1) (Q3' : zo_Q h0 h3 A0 g0 A3 r) (W : zo_W t A3 p a2) (z : tk_Q t p < t.1) (y1 : tk_so (t.2 (tk_Q t p)) = 1) : ∃ h' A', zm_den 2 129 140 [.ref 137, .int (t.2 (tk_Q t p))] [] h3 = some (none, h') ∧ zo_Q h0 h' A0 g0 A' r ∧ zo_LA t A' p ∧ A' 2 = a2 := by
  obtain ⟨w8, w9, w11, w6, w2⟩ := W
  have b2 := B.2.1
  have hE := tk_E_le hp
  have n4 : ¬ tk_S0 t p = 4 := fun q => tk_S0_4.mp q z
  have s0 : tk_S0 t p = tk_so (t.2 (tk_Q t p)) := if_pos z
  obtain ⟨h4, A4, f1, Q4, f8, f11, fk⟩ := qm_st3 (x1 := t.2 (tk_Q t p)) (q := tk_Q t p) B (t.1 - tk_Q t p) (tk_Q t p) h3 A3 (by omega) (Nat.le_refl _) Q3' w8 w9
  have eE : tk_rn t.2 1 (t.1 - tk_Q t p) (tk_Q t p) = tk_E t p := by
    rw [show t.1 - tk_Q t p = (t.1 - (tk_Q t p + 1)) + 1 by omega]
    unfold tk_E
    rw [if_neg n4, if_pos (by omega), s0, y1]
    show (if tk_so (t.2 (tk_Q t p)) = 1 then _ else _) = _
    rw [if_pos y1]
  rw [eE] at f8 f11
  have Q5 := zo_Qs (c := 10) (x := 2) Q4 (by decide)
  have v8 : upd A4 10 2 8 = nI (tk_E t p) := by rw [pk_un (by decide)]; exact f8
  have v9 : upd A4 10 2 9 = nI (tk_Q t p) := by rw [pk_un (by decide), fk 9 (by decide) (by decide)]; exact w9
  have v6 : upd A4 10 2 6 = 0 := by rw [pk_un (by decide), fk 6 (by decide) (by decide)]; exact w6
  have v2 : upd A4 10 2 2 = a2 := by rw [pk_un (by decide), fk 2 (by decide) (by decide)]; exact w2
  have dl : nI (tk_E t p) - nI (tk_Q t p) = nI (tk_E t p - tk_Q t p) := pk_sub hE.1
  have F : zm_den 2 129 140 [.ref 137, .int (t.2 (tk_Q t p))] [] h3 = zm_den 2 129 217 [.ref 137, .int (t.2 (tk_Q t p))] [] h4 := f1
  by_cases w : 2 < tk_E t p - tk_Q t p
  · have eS : tk_S t p = 3 := if_pos ⟨by rw [s0, y1], w⟩
    obtain ⟨h6', A6, g1, Q6, g6, g7, gk⟩ := qm_fails (c := 1) Q5 v6
    refine ⟨h6', A6, ?_, Q6, ⟨by rw [gk 8 (by decide) (by decide), v8], by rw [gk 9 (by decide) (by decide), v9], fun _ => ⟨g6, by rw [g7, v9]⟩, fun q => absurd eS q⟩, by rw [gk 2 (by decide) (by decide), v2]⟩
    rw [F, zb129_217, Q4.1.1, zop10, zg_ss, zoi8, v8, zoi9, v9, dl, if_neg (show ¬ nI (tk_E t p - tk_Q t p) ≤ (2 : Int32) from nI_ge (a := 2) w (by omega)), zm_nx, zb129_235, Q5.1.1, zq_rc_o, g1, zq_bv_o, zm_nx, zb129_269]
  · have eS : tk_S t p = 1 := by
      unfold tk_S
      rw [if_neg (fun q => w q.2), s0, y1]
    have e11 : upd A4 10 2 11 = tk_V t p := by
      rw [pk_un (by decide), f11 (by omega), w11]
      rfl
    refine ⟨_, _, ?_, Q5, ⟨v8, v9, fun q => absurd q (by omega), fun _ => ⟨v6, by rw [pk_us, eS]; decide, fun _ => e11⟩⟩, v2⟩
    rw [F, zb129_217, Q4.1.1, zop10, zg_ss, zoi8, v8, zoi9, v9, dl, if_pos (show nI (tk_E t p - tk_Q t p) ≤ (2 : Int32) from nI_le (b := 2) (by omega) (by decide)), zm_nx, zb129_269]
theorem qm_stepS {h3 : zm_H} {A3 : Nat → Int32} {a2 : Int32} (B : zo_B h0 t A0) (hp : p ≤ t.1) (Q3' : zo_Q h0 h3 A0 g0 A3 r) (W : zo_W t A3 p a2) (z : tk_Q t p < t.1) (y0 : ¬ tk_so (t.2 (tk_Q t p)) = 0) (y1 : ¬ tk_so (t.2 (tk_Q t p)) = 1) : ∃ h' A', zm_den 2 129 243 [.ref 137, .int (t.2 (tk_Q t p))] [] h3 = some (none, h') ∧ zo_Q h0 h' A0 g0 A' r ∧ zo_LA t A' p ∧ A' 2 = a2 := by
  obtain ⟨w8, w9, w11, w6, w2⟩ := W
  have b2 := B.2.1
  have n4 : ¬ tk_S0 t p = 4 := fun q => tk_S0_4.mp q z
  have s0 : tk_S0 t p = tk_so (t.2 (tk_Q t p)) := if_pos z
  have s4 := tk_so_lt (t.2 (tk_Q t p))
  have Q5 := zo_Qs (c := 10) (x := 3) Q3' (by decide)
  have Q6 := zo_Qs (c := 8) (x := nI (tk_Q t p + 1)) Q5 (by decide)
  have v8 : upd A3 10 3 8 = nI (tk_Q t p) := by rw [pk_un (by decide)]; exact w8
  have eE : tk_E t p = tk_Q t p + 1 := by
    unfold tk_E
    rw [if_neg n4, if_neg (by omega)]
  have x6 : upd (upd A3 10 3) 8 (nI (tk_Q t p + 1)) 6 = 0 := by rw [pk_un (by decide), pk_un (by decide)]; exact w6
  have x9 : upd (upd A3 10 3) 8 (nI (tk_Q t p + 1)) 9 = nI (tk_Q t p) := by rw [pk_un (by decide), pk_un (by decide)]; exact w9
  have x2 : upd (upd A3 10 3) 8 (nI (tk_Q t p + 1)) 2 = a2 := by rw [pk_un (by decide), pk_un (by decide)]; exact w2
  have x8 : upd (upd A3 10 3) 8 (nI (tk_Q t p + 1)) 8 = nI (tk_E t p) := by rw [pk_us, eE]
  have s12 := tk_so_2 _ y0 y1
  by_cases w : t.2 (tk_Q t p) = 59
  · have eS : tk_S t p = 2 := by
      unfold tk_S
      rw [if_neg (fun q => by omega), s0, s12]
      unfold tk_s2
      rw [if_neg (not_not_intro w)]
    refine ⟨_, _, ?_, Q6, ⟨x8, x9, fun q => absurd q (by omega), fun _ => ⟨x6, by rw [pk_un (by decide), pk_us, eS]; decide, fun q => absurd q (by omega)⟩⟩, x2⟩
    rw [zb129_243, Q3'.1.1, zop10, zg_ss, zoi8, v8, nI_1, zop8, if_pos w, zm_nx, zb129_269]
  · have eS : tk_S t p = 3 := by
      unfold tk_S
      rw [if_neg (fun q => by omega), s0, s12]
      unfold tk_s2
      rw [if_pos w]
    obtain ⟨h7, A7, g1, Q7, g6, g7, gk⟩ := qm_fails (c := 1) Q6 x6
    refine ⟨h7, A7, ?_, Q7, ⟨by rw [gk 8 (by decide) (by decide), x8], by rw [gk 9 (by decide) (by decide), x9], fun _ => ⟨g6, by rw [g7, x9]⟩, fun q => absurd eS q⟩, by rw [gk 2 (by decide) (by decide), x2]⟩
    rw [zb129_243, Q3'.1.1, zop10, zg_ss, zoi8, v8, nI_1, zop8, if_neg w, zm_nx, zb129_264, Q6.1.1, zq_rc_o, g1, zq_bv_o, zm_nx, zb129_269]
theorem qm_step (B : zo_B h0 t A0) (hp : p ≤ t.1) (Q : zo_Q h0 h A0 g0 A r) (h6 : A 6 = 0) (h8 : A 8 = nI p) : ∃ h' A', zm_call 129 [.ref 137] h = some (none, h') ∧ zo_Q h0 h' A0 g0 A' r ∧ zo_LA t A' p ∧ A' 2 = A 2 := by
  obtain ⟨h3, A3, Q3', W, E1⟩ := qm_step0 B hp Q h6 h8
  by_cases z : tk_Q t p < t.1
  · obtain ⟨eb, nb⟩ := tk_by_p B z
    rw [eb, if_pos nb, zb129_70] at E1
    have m1 := qm_in (h := h3) (t.2 (tk_Q t p)) 97 122 (97 : Int64) (122 : Int64) (by decide) (by decide)
    have m2 := qm_in (h := h3) (t.2 (tk_Q t p)) 48 57 (48 : Int64) (57 : Int64) (by decide) (by decide)
    rw [m1, zq_bi_o] at E1
    by_cases y0 : tk_so (t.2 (tk_Q t p)) = 0
    · rw [if_neg (fun w => (tk_so_0 _).mp w y0), zm_nx] at E1
      obtain ⟨h', A', k1, k2⟩ := qm_stepN B hp Q3' W z y0
      exact ⟨h', A', E1.trans k1, k2⟩
    · rw [if_pos ((tk_so_0 _).mpr y0), zm_nx, zb129_126, m2, zq_bi_o] at E1
      by_cases y1 : tk_so (t.2 (tk_Q t p)) = 1
      · rw [if_neg (fun w => (tk_so_d _).mp w y1), zm_nx] at E1
        obtain ⟨h', A', k1, k2⟩ := qm_stepD B hp Q3' W z y1
        exact ⟨h', A', E1.trans k1, k2⟩
      · rw [if_pos ((tk_so_d _).mpr y1), zm_nx] at E1
        obtain ⟨h', A', k1, k2⟩ := qm_stepS B hp Q3' W z y0 y1
        exact ⟨h', A', E1.trans k1, k2⟩
  · obtain ⟨w8, w9, w11, w6, w2⟩ := W
    have n4 : tk_S0 t p = 4 := tk_S0_4.mpr z
    have eE : tk_E t p = tk_Q t p := if_pos n4
    have eS : tk_S t p = 4 := tk_S_4.mpr n4
    rw [show tk_by t (tk_Q t p) = -4 from if_neg z, if_neg (by decide), zb129_62] at E1
    have Q5 := zo_Qs (c := 10) (x := 0) Q3' (by decide)
    rw [Q3'.1.1, zop10, zm_nx, zb129_269] at E1
    exact ⟨_, _, E1, Q5, ⟨by rw [pk_un (by decide), eE]; exact w8, by rw [pk_un (by decide)]; exact w9, fun q => absurd q (by omega), fun _ => ⟨by rw [pk_un (by decide)]; exact w6, by rw [pk_us, eS]; decide, fun q => absurd q (by omega)⟩⟩, by rw [pk_un (by decide)]; exact w2⟩
theorem qm_step1 (Q : zo_Q h0 h A0 g0 A r) {c : Nat} (h6 : A 6 = nI c) (hc : 0 < c) (hc2 : c < 100) : zm_call 129 [.ref 137] h = some (none, h) := by
  rw [zc129, zm_nx, zb129_0]
  simp only [Q.1.1, zoi6, h6]
  rw [if_neg (nI_nle hc (by omega)), zm_nx, zb129_7]
/-- a number wanted, whatever stands -/
theorem qm_number {M : Nat} {s : tk_M} (hM : M < 1000) (B : zo_B h0 t A0) (Q : zo_Q h0 h A0 g0 A r) (S : zo_St t A s) : ∃ h' A', zm_call 130 [.ref 137, .int 0, .int (nI M)] h = some (some (.int (tk_nv t s (nI M))), h') ∧ zo_Q h0 h' A0 g0 A' r ∧ zo_St t A' (tk_nx t s (nI M)) ∧ A' 2 = A 2 := by
  have h10 : ¬ (1 : Int32) = 0 := by decide
  have m0 := fun (h : zm_H) (x : Int32) => qm_in (h := h) x 0 (nI M) (0 : Int32).toInt64 (nI M).toInt64 rfl rfl
  match s, S with
  | .inr c, S =>
    obtain ⟨s6, s7, s0, s1⟩ := S
    have n6 : ¬ A 6 = 0 := by rw [s6]; exact nI_ne0 s0 (by omega)
    refine ⟨h, A, ?_, Q, ⟨s6, s7, s0, s1⟩, rfl⟩
    rw [zc130, zm_nx, zb130_0]
    simp only [Q.1.1, zoi6, n6, not_false_eq_true, if_true, zm_nx]
    rw [zb130_20]
    simp only [Q.1.1, zoi6, n6, not_false_eq_true, if_true, zm_nx]
    rw [zb130_47]
    simp only [Q.1.1, zoi6, n6, not_false_eq_true, if_true, zm_nx]
    rw [zb130_61, zm_nx, zb130_62, Q.1.1, zq_rc_o, qm_step1 Q s6 s0 s1, zq_bv_o]
    rfl
  | .inl p, S =>
    obtain ⟨hp, l8, l9, lw, lr⟩ := S
    have hE := tk_E_le hp
    by_cases z : tk_S t p = 3
    · obtain ⟨s6, s7⟩ := lw z
      have n6 : ¬ A 6 = 0 := by rw [s6]; exact h10
      have en : tk_n t p (nI M) = 1 := by
        unfold tk_n
        rw [if_neg (by omega), if_pos z]
      have e1 : tk_nx t (.inl p) (nI M) = .inr (1, tk_Q t p) := by
        show (if tk_n t p (nI M) = 0 then _ else _) = _
        rw [en, if_neg (by decide)]
      have e2 : tk_nv t (.inl p) (nI M) = 0 := by
        show (if tk_n t p (nI M) = 0 then _ else _) = _
        rw [en, if_neg (by decide)]
      rw [e1, e2]
      refine ⟨h, A, ?_, Q, ⟨s6, s7, (show 0 < 1 by decide), (show 1 < 100 by decide)⟩, rfl⟩
      rw [zc130, zm_nx, zb130_0]
      simp only [Q.1.1, zoi6, n6, not_false_eq_true, if_true, zm_nx]
      rw [zb130_20]
      simp only [Q.1.1, zoi6, n6, not_false_eq_true, if_true, zm_nx]
      rw [zb130_47]
      simp only [Q.1.1, zoi6, n6, not_false_eq_true, if_true, zm_nx]
      rw [zb130_61, zm_nx, zb130_62, Q.1.1, zq_rc_o, qm_step1 (c := 1) Q s6 (by decide) (by decide), zq_bv_o]
    · obtain ⟨s6, s10, s11⟩ := lr z
      have sl := tk_S_lt (t := t) (p := p)
      by_cases y : tk_S t p = 1
      · have k2 : A 10 = 2 := by rw [s10, y]; rfl
        have v11 := s11 y
        obtain ⟨v, hv, ev⟩ := tk_V_n hp B.2.2.1 y
        have E1 : zm_call 130 [.ref 137, .int 0, .int (nI M)] h = (if ¬ zw_in (tk_V t p) 0 (nI M) = 0 then zm_den 3 130 47 [.ref 137, .int 0, .int (nI M), .null] [] h else zm_den 3 130 42 [.ref 137, .int 0, .int (nI M), .null] [] h) := by
          rw [zc130, zm_nx, zb130_0]
          simp only [Q.1.1, zoi6, s6, not_true_eq_false, if_false, zm_nx]
          rw [zb130_7]
          simp only [Q.1.1, zoi10, k2, if_true, zm_nx]
          rw [zb130_20]
          simp only [Q.1.1, zoi6, s6, not_true_eq_false, if_false, zm_nx]
          rw [zb130_27]
          simp only [Q.1.1, zoi11, v11, m0, zq_bi_o, zm_nx]
        by_cases x : tk_V t p ≤ nI M
        · have en : tk_n t p (nI M) = 0 := by
            unfold tk_n
            rw [if_pos y, if_pos x]
          have iw : ¬ zw_in (tk_V t p) 0 (nI M) = 0 := by
            unfold zw_in
            rw [ev] at x ⊢
            rw [if_neg (nI_pos (by omega)), if_neg (Int32.not_lt.mpr x)]
            exact h10
          have e1 : tk_nx t (.inl p) (nI M) = .inl (tk_E t p) := if_pos en
          have e2 : tk_nv t (.inl p) (nI M) = tk_V t p := if_pos en
          rw [e1, e2]
          obtain ⟨h', A', f1, Q', LA', f2⟩ := qm_step B hE.2.1 Q s6 l8
          refine ⟨h', A', ?_, Q', ⟨hE.2.1, LA'⟩, f2⟩
          rw [E1, if_pos iw, zb130_47]
          simp only [Q.1.1, zoi6, s6, not_true_eq_false, if_false, zm_nx]
          rw [zb130_54]
          simp only [Q.1.1, zoi11, v11, zm_nx]
          rw [zb130_62, Q.1.1, zq_rc_o, f1, zq_bv_o]
        · have en : tk_n t p (nI M) = 3 := by
            unfold tk_n
            rw [if_pos y, if_neg x]
          have iw : zw_in (tk_V t p) 0 (nI M) = 0 := by
            unfold zw_in
            rw [ev] at x ⊢
            rw [if_neg (nI_pos (by omega)), if_pos (Int32.not_le.mp x)]
          have e1 : tk_nx t (.inl p) (nI M) = .inr (3, tk_Q t p) := by
            show (if tk_n t p (nI M) = 0 then _ else _) = _
            rw [en, if_neg (by decide)]
          have e2 : tk_nv t (.inl p) (nI M) = 0 := by
            show (if tk_n t p (nI M) = 0 then _ else _) = _
            rw [en, if_neg (by decide)]
          rw [e1, e2]
          obtain ⟨h', A', f1, Q', f6, f7, fk⟩ := qm_fails (c := 3) Q s6
          have n6 : ¬ A' 6 = 0 := by rw [f6]; decide
          refine ⟨h', A', ?_, Q', ⟨f6, by rw [f7]; exact l9, (show 0 < 3 by decide), (show 3 < 100 by decide)⟩, fk 2 (by decide) (by decide)⟩
          rw [E1, if_neg (not_not_intro iw), zb130_42, Q.1.1, zq_rc_o, f1, zq_bv_o, zm_nx, zb130_47]
          simp only [Q'.1.1, zoi6, n6, not_false_eq_true, if_true, zm_nx]
          rw [zb130_61, zm_nx, zb130_62, Q'.1.1, zq_rc_o, qm_step1 (c := 3) Q' f6 (by decide) (by decide), zq_bv_o]
      · have k2 : ¬ A 10 = 2 := by
          rw [s10]
          have : ∀ s, s < 5 → ¬ s = 1 → ¬ s = 3 → ¬ nI (tk_K s) = (2 : Int32) := by decide
          exact this _ sl y z
        have en : tk_n t p (nI M) = 2 := by
          unfold tk_n
          rw [if_neg y, if_neg z]
        have e1 : tk_nx t (.inl p) (nI M) = .inr (2, tk_Q t p) := by
          show (if tk_n t p (nI M) = 0 then _ else _) = _
          rw [en, if_neg (by decide)]
        have e2 : tk_nv t (.inl p) (nI M) = 0 := by
          show (if tk_n t p (nI M) = 0 then _ else _) = _
          rw [en, if_neg (by decide)]
        rw [e1, e2]
        obtain ⟨h', A', f1, Q', f6, f7, fk⟩ := qm_fails (c := 2) Q s6
        have n6 : ¬ A' 6 = 0 := by rw [f6]; decide
        refine ⟨h', A', ?_, Q', ⟨f6, by rw [f7]; exact l9, (show 0 < 2 by decide), (show 2 < 100 by decide)⟩, fk 2 (by decide) (by decide)⟩
        rw [zc130, zm_nx, zb130_0]
        simp only [Q.1.1, zoi6, s6, not_true_eq_false, if_false, zm_nx]
        rw [zb130_7]
        simp only [Q.1.1, zoi10, k2, if_false, zm_nx]
        rw [zb130_15, Q.1.1, zq_rc_o, f1, zq_bv_o, zm_nx, zb130_20]
        simp only [Q'.1.1, zoi6, n6, not_false_eq_true, if_true, zm_nx]
        rw [zb130_47]
        simp only [Q'.1.1, zoi6, n6, not_false_eq_true, if_true, zm_nx]
        rw [zb130_61, zm_nx, zb130_62, Q'.1.1, zq_rc_o, qm_step1 (c := 2) Q' f6 (by decide) (by decide), zq_bv_o]
end ZT84
