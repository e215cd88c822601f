/-- the reference at its reading -/
def zo_Q (h0 h : zm_H) (A0 g0 A r : Nat → Int32) : Prop := zo_M h 137 A g0 ∧ zm_g h 139 = .inl (0, 31, .inl r) ∧ (∀ c, c ≠ 2 → (c < 6 ∨ 11 < c) → A c = A0 c) ∧ h.1 = h0.1 ∧ h.2.1 = h0.2.1 ∧ ∀ b, b ≠ 137 → b ≠ 139 → zm_g h b = zm_g h0 b
def tk_by (t : tk_T) (p : Nat) : Int32 := if p < t.1 then t.2 p else -4
def tk_K (s : Nat) : Nat := if s = 4 then 0 else if s = 0 then 1 else if s = 1 then 2 else 3
def zo_LA (t : tk_T) (A : Nat → Int32) (p : Nat) : Prop := A 8 = nI (tk_E t p) ∧ A 9 = nI (tk_Q t p) ∧ (tk_S t p = 3 → A 6 = 1 ∧ A 7 = nI (tk_Q t p)) ∧ (¬ tk_S t p = 3 → A 6 = 0 ∧ A 10 = nI (tk_K (tk_S t p)) ∧ (tk_S t p = 1 → A 11 = tk_V t p))
section ZT83
variable {h h0 : zm_H} {t : tk_T} {A0 g0 A r tr : Nat → Int32} {p : Nat}
theorem zo_Qs {c : Nat} {x : Int32} (Q : zo_Q h0 h A0 g0 A r) (hc : c = 2 ∨ (6 ≤ c ∧ c ≤ 11)) : zo_Q h0 (zm_s h 137 (.inr (7, zo_c 137 (upd A c x)))) A0 g0 (upd A c x) r := by
  obtain ⟨q1, q2, q3, q4, q5, q6⟩ := Q
  exact ⟨⟨zg_ss, by rw [zg_sn (by omega)]; exact q1.2⟩, by rw [zg_sn (by omega)]; exact q2, fun d d1 d2 => by rw [pk_un (by omega)]; exact q3 d d1 d2, q4, q5, fun b b1 b2 => by rw [zg_sn b1]; exact q6 b b1 b2⟩
theorem zo_Qr {r' : Nat → Int32} (Q : zo_Q h0 h A0 g0 A r) : zo_Q h0 (zm_s h (137 + 2) (.inl (0, 31, .inl r'))) A0 g0 A r' := by
  obtain ⟨q1, q2, q3, q4, q5, q6⟩ := Q
  exact ⟨⟨by rw [zg_sn (by omega)]; exact q1.1, by rw [zg_sn (by omega)]; exact q1.2⟩, zg_ss, q3, q4, q5, fun b b1 b2 => by rw [zg_sn b2]; exact q6 b b1 b2⟩
/-- what the reading takes from the start -/
def zo_B (h0 : zm_H) (t : tk_T) (A0 : Nat → Int32) : Prop := A0 4 = nI t.1 ∧ t.1 ≤ 160 ∧ (∀ j, j < t.1 → ∃ c, c < 128 ∧ t.2 j = nI c) ∧ (∃ tr, zm_g h0 140 = .inl (0, 160, .inl tr) ∧ ∀ j, j < t.1 → tr j = t.2 j)
theorem qm_byte (B : zo_B h0 t A0) (hp : p < 100000) (Q : zo_Q h0 h A0 g0 A r) : zm_call 126 [.ref 137, .int (nI p)] h = some (some (.int (tk_by t p)), h) := by
  obtain ⟨b1, b2, -, tr, b3, b4⟩ := B
  obtain ⟨q1, q2, q3, q4, q5, q6⟩ := Q
  have a4 : A 4 = nI t.1 := (q3 4 (by decide) (by decide)).trans b1
  have c140 : zm_g h (137 + 3) = .inl (0, 160, .inl tr) := (q6 140 (by decide) (by decide)).trans b3
  unfold tk_by
  rw [zc126, zm_nx, zb126_0]
  simp only [q1.1, zoi4, a4]
  by_cases z : p < t.1
  · rw [if_neg (nI_ge z (by omega)), zm_nx, zb126_8]
    simp only [q1.1, zor3, c140, zq_al_o (show p < 160 by omega) (show (160 : Nat) < 2 ^ 31 by decide), b4 p z, zm_nx]
    rw [zb126_19, if_pos z]
  · rw [if_pos (nI_le (by omega) (by omega)), zm_nx, zb126_17, zm_nx, zb126_19, if_neg z]
theorem qm_fails {c : Int32} (Q : zo_Q h0 h A0 g0 A r) (h6 : A 6 = 0) : ∃ h' A', zm_call 127 [.ref 137, .int c] h = some (none, h') ∧ zo_Q h0 h' A0 g0 A' r ∧ A' 6 = c ∧ A' 7 = A 9 ∧ ∀ d, d ≠ 6 → d ≠ 7 → A' d = A d := by
  have Q1 := zo_Qs (c := 6) (x := c) Q (by decide)
  have Q2 := zo_Qs (c := 7) (x := A 9) Q1 (by decide)
  have e9 : upd A 6 c 9 = A 9 := pk_un (by decide)
  refine ⟨_, _, ?_, Q2, by rw [pk_un (by decide), pk_us], pk_us, fun d d1 d2 => by rw [pk_un d2, pk_un d1]⟩
  rw [zc127, zm_nx, zb127_0]
  simp only [Q.1.1, zoi6, h6, not_true_eq_false, if_false, zm_nx]
  rw [zb127_7]
  simp only [Q.1.1, zop6, zg_ss, zoi9, e9, zop7, zm_nx]
  rw [zb127_20]
theorem qm_fails1 {c : Int32} (Q : zo_Q h0 h A0 g0 A r) (h6 : ¬ A 6 = 0) : zm_call 127 [.ref 137, .int c] h = some (none, h) := by
  rw [zc127, zm_nx, zb127_0]
  simp only [Q.1.1, zoi6]
  rw [if_pos h6, zm_nx, zb127_20]
theorem tk_by_p (B : zo_B h0 t A0) (hp : p < t.1) : tk_by t p = t.2 p ∧ ¬ t.2 p = -4 := by
  obtain ⟨c, hc, e⟩ := B.2.2.1 p hp
  exact ⟨if_pos hp, by rw [e]; exact nI_ne4 (by omega)⟩
theorem qm_st1 {v1 : Value} (B : zo_B h0 t A0) : ∀ (k p : Nat) (h : zm_H) (A : Nat → Int32), p + k = t.1 → zo_Q h0 h A0 g0 A r → A 8 = nI p → ∃ h' A', zm_den 2 129 8 [.ref 137, v1] [] h = zm_den 2 129 34 [.ref 137, v1] [] h' ∧ zo_Q h0 h' A0 g0 A' r ∧ A' 8 = nI (tk_sk t.2 k p) ∧ ∀ c, c ≠ 8 → A' c = A c := by
  have b2 := B.2.1
  intro k
  induction k with
  | zero =>
    intro p h A hp Q h8
    have by_ := qm_byte (p := p) B (by omega) Q
    rw [show tk_by t p = -4 from if_neg (by omega)] at by_
    refine ⟨h, A, ?_, Q, h8, fun _ _ => rfl⟩
    rw [zb129_8]
    simp only [Q.1.1, zoi8, h8, zq_rc_o, by_, zq_bi_o]
    rw [if_pos (by decide), zm_nx]
  | succ k ih =>
    intro p h A hp Q h8
    have by_ := qm_byte (p := p) B (by omega) Q
    rw [show tk_by t p = t.2 p from if_pos (by omega)] at by_
    unfold tk_sk
    by_cases z : t.2 p = 32
    · have Q1 := zo_Qs (c := 8) (x := nI (p + 1)) Q (by decide)
      obtain ⟨h', A', e1, e2, e3, e4⟩ := ih (p + 1) _ _ (by omega) Q1 pk_us
      refine ⟨h', A', ?_, e2, by rw [if_neg (not_not_intro z)]; exact e3, fun c hc => by rw [e4 c hc, pk_un hc]⟩
      rw [zb129_8]
      simp only [Q.1.1, zoi8, h8, zq_rc_o, by_, zq_bi_o]
      rw [if_neg (not_not_intro z), zm_nx, zb129_21]
      simp only [Q.1.1, zoi8, h8, nI_1, zop8, zm_nx]
      exact e1
    · refine ⟨h, A, ?_, Q, by rw [if_pos z]; exact h8, fun _ _ => rfl⟩
      rw [zb129_8]
      simp only [Q.1.1, zoi8, h8, zq_rc_o, by_, zq_bi_o]
      rw [if_pos z, zm_nx]
theorem tk_so_0 (x : Int32) : zw_in x 97 122 = 0 ↔ ¬ tk_so x = 0 := by
  have s2 : ¬ tk_s2 x = 0 := by unfold tk_s2; split <;> decide
  have s1 : ¬ tk_s1 x = 0 := by
    unfold tk_s1
    split
    · exact s2
    · split
      · exact s2
      · decide
  unfold zw_in tk_so
  by_cases z : x < 97
  · rw [if_pos z, if_pos z]; exact ⟨fun _ => s1, fun _ => rfl⟩
  · rw [if_neg z, if_neg z]
    by_cases y : 122 < x
    · rw [if_pos y, if_pos y]; exact ⟨fun _ => s1, fun _ => rfl⟩
    · rw [if_neg y, if_neg y]; exact ⟨fun w => absurd w (by decide), fun w => absurd rfl w⟩
theorem tk_so_01 (x : Int32) (h0 : ¬ tk_so x = 0) : zw_in x 48 57 = 0 ↔ ¬ tk_so x = 1 := by
  have s2 : ¬ tk_s2 x = 1 := by unfold tk_s2; split <;> decide
  have e : tk_so x = tk_s1 x := by
    unfold tk_so at h0 ⊢
    by_cases z : x < 97
    · rw [if_pos z]
    · rw [if_neg z] at h0 ⊢
      by_cases y : 122 < x
      · rw [if_pos y]
      · rw [if_neg y] at h0
        exact absurd rfl h0
  rw [e]
  unfold zw_in tk_s1
  by_cases z : x < 48
  · rw [if_pos z, if_pos z]; exact ⟨fun _ => s2, fun _ => rfl⟩
  · rw [if_neg z, if_neg z]
    by_cases y : 57 < x
    · rw [if_pos y, if_pos y]; exact ⟨fun _ => s2, fun _ => rfl⟩
    · rw [if_neg y, if_neg y]; exact ⟨fun w => absurd w (by decide), fun w => absurd rfl w⟩
theorem tk_so_48 (x : Int32) (h1 : zw_in x 48 57 = 1) : tk_so x = 1 := by
  unfold zw_in at h1
  by_cases z : x < 48
  · rw [if_pos z] at h1; exact absurd h1 (by decide)
  · rw [if_neg z] at h1
    by_cases y : 57 < x
    · rw [if_pos y] at h1; exact absurd h1 (by decide)
    · have w : x < 97 := by
        rw [Int32.lt_iff_toInt_lt] at y ⊢
        have : (57 : Int32).toInt = 57 := by decide
        have : (97 : Int32).toInt = 97 := by decide
        omega
      unfold tk_so tk_s1
      rw [if_pos w, if_neg z, if_neg y]
theorem tk_so_d (x : Int32) : zw_in x 48 57 = 0 ↔ ¬ tk_so x = 1 := by
  constructor
  · intro e q
    have h0 : ¬ tk_so x = 0 := by omega
    exact (tk_so_01 x h0).mp e q
  · intro q
    by_cases z : zw_in x 48 57 = 0
    · exact z
    · have : zw_in x 48 57 = 1 := by
        unfold zw_in at z ⊢
        split at z
        · exact absurd rfl z
        · split at z
          · exact absurd rfl z
          · rw [if_neg (by assumption), if_neg (by assumption)]
      exact absurd (tk_so_48 x this) q
theorem qm_st2 {x1 : Int32} (B : zo_B h0 t A0) : ∀ (k p : Nat) (h : zm_H) (A : Nat → Int32), p + k = t.1 → zo_Q h0 h A0 g0 A r → A 8 = nI p → ∃ h' A', zm_den 2 129 84 [.ref 137, .int x1] [] h = zm_den 2 129 118 [.ref 137, .int x1] [] h' ∧ zo_Q h0 h' A0 g0 A' r ∧ A' 8 = nI (tk_rn t.2 0 k p) ∧ ∀ c, c ≠ 8 → A' c = A c := by
  have b2 := B.2.1
  intro k
  induction k with
  | zero =>
    intro p h A hp Q h8
    have by_ := qm_byte (p := p) B (by omega) Q
    rw [show tk_by t p = -4 from if_neg (by omega)] at by_
    have m := qm_in (h := h) (-4) 97 122 (97 : Int64) (122 : Int64) (by decide) (by decide)
    rw [show zw_in (-4) 97 122 = 0 by decide] at m
    refine ⟨h, A, ?_, Q, h8, fun _ _ => rfl⟩
    rw [zb129_84]
    simp only [Q.1.1, zoi8, h8, zq_rc_o, by_, zq_bi_o, m, if_true, zm_nx]
  | succ k ih =>
    intro p h A hp Q h8
    have by_ := qm_byte (p := p) B (by omega) Q
    rw [show tk_by t p = t.2 p from if_pos (by omega)] at by_
    have m := qm_in (h := h) (t.2 p) 97 122 (97 : Int64) (122 : Int64) (by decide) (by decide)
    unfold tk_rn
    by_cases z : tk_so (t.2 p) = 0
    · have Q1 := zo_Qs (c := 8) (x := nI (p + 1)) Q (by decide)
      obtain ⟨h', A', e1, e2, e3, e4⟩ := ih (p + 1) _ _ (by omega) Q1 pk_us
      refine ⟨h', A', ?_, e2, by rw [if_pos z]; exact e3, fun c hc => by rw [e4 c hc, pk_un hc]⟩
      have nz : ¬ zw_in (t.2 p) 97 122 = 0 := fun w => (tk_so_0 _).mp w z
      rw [zb129_84]
      simp only [Q.1.1, zoi8, h8, zq_rc_o, by_, zq_bi_o, m]
      rw [if_neg nz, zm_nx, zb129_105]
      simp only [Q.1.1, zoi8, h8, nI_1, zop8, zm_nx]
      exact e1
    · refine ⟨h, A, ?_, Q, by rw [if_neg z]; exact h8, fun _ _ => rfl⟩
      rw [zb129_84]
      simp only [Q.1.1, zoi8, h8, zq_rc_o, by_, zq_bi_o, m]
      rw [if_pos ((tk_so_0 _).mpr z), zm_nx]
theorem zx_10 (v x : Int32) : (10 * v + x) - 48 = 10 * v + (x - 48) := by rw [Int32.sub_eq_add_neg, Int32.sub_eq_add_neg, Int32.add_assoc]
theorem qm_st3 {x1 : Int32} {q : Nat} (B : zo_B h0 t A0) : ∀ (k p : Nat) (h : zm_H) (A : Nat → Int32), p + k = t.1 → q ≤ p → zo_Q h0 h A0 g0 A r → A 8 = nI p → A 9 = nI q → ∃ h' A', zm_den 2 129 140 [.ref 137, .int x1] [] h = zm_den 2 129 217 [.ref 137, .int x1] [] h' ∧ zo_Q h0 h' A0 g0 A' r ∧ A' 8 = nI (tk_rn t.2 1 k p) ∧ (tk_rn t.2 1 k p - q ≤ 2 → A' 11 = tk_v t.2 (tk_rn t.2 1 k p - p) p (A 11)) ∧ ∀ c, c ≠ 8 → c ≠ 11 → A' c = A c := by
  have b2 := B.2.1
  intro k
  induction k with
  | zero =>
    intro p h A hp hq Q h8 h9
    have by_ := qm_byte (p := p) B (by omega) Q
    rw [show tk_by t p = -4 from if_neg (by omega)] at by_
    have m := qm_in (h := h) (-4) 48 57 (48 : Int64) (57 : Int64) (by decide) (by decide)
    rw [show zw_in (-4) 48 57 = 0 by decide] at m
    refine ⟨h, A, ?_, Q, h8, fun _ => ?_, fun _ _ _ => rfl⟩
    · rw [zb129_140]
      simp only [Q.1.1, zoi8, h8, zq_rc_o, by_, zq_bi_o, m, if_true, zm_nx]
    · show A 11 = tk_v t.2 (p - p) p (A 11)
      rw [Nat.sub_self]
      rfl
  | succ k ih =>
    intro p h A hp hq Q h8 h9
    have by_ := fun {h : zm_H} {A : Nat → Int32} (Q : zo_Q h0 h A0 g0 A r) => qm_byte (p := p) B (by omega) Q
    rw [show tk_by t p = t.2 p from if_pos (by omega)] at by_
    have m := qm_in (h := h) (t.2 p) 48 57 (48 : Int64) (57 : Int64) (by decide) (by decide)
    unfold tk_rn
    by_cases z : tk_so (t.2 p) = 1
    · have nz : ¬ zw_in (t.2 p) 48 57 = 0 := fun w => (tk_so_d _).mp w z
      obtain ⟨x, ex⟩ : ∃ x, x = if p - q < 2 then 10 * A 11 + (t.2 p - 48) else A 11 := ⟨_, rfl⟩
      have Q1 := zo_Qs (c := 11) (x := x) Q (by decide)
      have Q2 := zo_Qs (c := 8) (x := nI (p + 1)) Q1 (by decide)
      have u8 : upd A 11 x 8 = nI p := by rw [pk_un (by decide)]; exact h8
      obtain ⟨h', A', e1, e2, e3, e4, e5⟩ := ih (p + 1) _ _ (by omega) (by omega) Q2 pk_us (by rw [pk_un (by decide), pk_un (by decide)]; exact h9)
      refine ⟨h', A', ?_, e2, by rw [if_pos z]; exact e3, fun w => ?_, fun c c1 c2 => by rw [e5 c c1 c2, pk_un c1, pk_un c2]⟩
      · have d2 : nI p - nI q = nI (p - q) := pk_sub hq
        rw [zb129_140]
        simp only [Q.1.1, zoi8, h8, zq_rc_o, by_ Q, zq_bi_o, m]
        rw [if_neg nz, zm_nx, zb129_161]
        simp only [Q.1.1, zoi8, h8, zoi9, h9, d2]
        by_cases y : p - q < 2
        · rw [if_neg (show ¬ (2 : Int32) ≤ nI (p - q) from nI_ge (b := 2) y (by decide)), zm_nx, zb129_175]
          simp only [Q.1.1, zoi11, zoi8, h8, zq_rc_o, by_ Q, zq_bi_o, zm_nx]
          rw [if_pos y] at ex
          rw [zb129_201, zx_10, ← ex]
          simp only [Q.1.1, zop11, zg_ss, zoi8, u8, nI_1, zop8, zm_nx]
          exact e1
        · rw [if_pos (show (2 : Int32) ≤ nI (p - q) from nI_le (a := 2) (by omega) (by omega)), zm_nx, zb129_197]
          simp only [Q.1.1, zoi11, zm_nx]
          rw [if_neg y] at ex
          rw [zb129_201, ← ex]
          simp only [Q.1.1, zop11, zg_ss, zoi8, u8, nI_1, zop8, zm_nx]
          exact e1
      · rw [if_pos z] at w ⊢
        have rl := tk_rn_le (b := t.2) (s := 1) k (p + 1)
        have := e4 w
        rw [this, pk_un (by decide), pk_us, ex, if_pos (by omega), show tk_rn t.2 1 k (p + 1) - p = (tk_rn t.2 1 k (p + 1) - (p + 1)) + 1 by omega]
        rfl
    · refine ⟨h, A, ?_, Q, by rw [if_neg z]; exact h8, fun _ => ?_, fun _ _ _ => rfl⟩
      · rw [zb129_140]
        simp only [Q.1.1, zoi8, h8, zq_rc_o, by_ Q, zq_bi_o, m]
        rw [if_pos ((tk_so_d _).mpr z), zm_nx]
      · rw [if_neg z, Nat.sub_self]
        rfl
end ZT83
