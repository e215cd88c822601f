def tk_en (j : Nat) : Nat := [0, 6, 12, 15, 19, 22].getD j 0
theorem tk_en_e : ∀ j, j < 6 → zo_ends.getD j 0 = nI (tk_en j) := by decide +kernel
theorem tk_en_l : ∀ j, j < 5 → tk_en j + tk_nl j = tk_en (j + 1) ∧ tk_en (j + 1) ≤ 22 := by decide
theorem tk_lets : ∀ j, j < 5 → ∀ k, k < 7 → k < tk_nl j → zo_lets.getD (tk_en j + k) 0 = tk_nc j k := by decide +kernel
def zo_B2 (h0 : zm_H) : Prop := (∃ e, zm_g h0 141 = .inl (0, 6, .inl e) ∧ ∀ j, j < 6 → e j = zo_ends.getD j 0) ∧ ∃ e, zm_g h0 142 = .inl (0, 22, .inl e) ∧ ∀ j, j < 22 → e j = zo_lets.getD j 0
section ZT85
variable {h h0 : zm_H} {t : tk_T} {A0 g0 A r : Nat → Int32} {p : Nat}
theorem qm_nm_i {j q e : Nat} (hj : j < 5) (B : zo_B h0 t A0) (B2 : zo_B2 h0) (Q : zo_Q h0 h A0 g0 A r) (h8 : A 8 = nI e) (h9 : A 9 = nI q) (he : e ≤ t.1) (hqe : q ≤ e) (hl : e - q = tk_nl j) : ∀ (m k : Nat), k + m = tk_nl j → ∃ v2 v3, zm_den 2 128 50 [.ref 137, .int (nI j), .int 1, .int (nI k)] [] h = if tk_eq t.2 j q m k = true then some (some (.int (nI j)), h) else zm_den 2 128 2 [.ref 137, .int (nI (j + 1)), v2, v3] [] h := by
  have h10 : ¬ (1 : Int32) = 0 := by decide
  have b2 := B.2.1
  have nl := tk_nl_lt j hj
  have en := tk_en_l j hj
  obtain ⟨⟨E, c1, c2⟩, F, d1, d2⟩ := B2
  have c141 : zm_g h (137 + 4) = .inl (0, 6, .inl E) := (Q.2.2.2.2.2 141 (by decide) (by decide)).trans c1
  have c142 : zm_g h (137 + 5) = .inl (0, 22, .inl F) := (Q.2.2.2.2.2 142 (by decide) (by decide)).trans d1
  have ej : E j = nI (tk_en j) := (c2 j (by omega)).trans (tk_en_e j (by omega))
  have dl : nI e - nI q = nI (tk_nl j) := by rw [pk_sub hqe, hl]
  intro m
  induction m with
  | zero =>
    intro k hk
    refine ⟨.null, .null, ?_⟩
    rw [zb128_50, if_neg h10, zm_nx, zb128_54, Q.1.1, zoi8, h8, zoi9, h9, dl, if_pos (nI_le (by omega) (by omega)), zm_nx, zb128_105, if_neg h10, zm_nx, zb128_109]
    exact (if_pos rfl).symm
  | succ m ih =>
    intro k hk
    have by_ := qm_byte (p := q + k) B (by omega) Q
    rw [show tk_by t (q + k) = t.2 (q + k) from if_pos (by omega)] at by_
    have fl : F (tk_en j + k) = tk_nc j k := (d2 _ (by omega)).trans (tk_lets j hj k (by omega) (by omega))
    have S : zm_den 2 128 50 [.ref 137, .int (nI j), .int 1, .int (nI k)] [] h = if ¬ t.2 (q + k) = tk_nc j k then zm_den 2 128 97 [.ref 137, .int (nI j), .int 1, .int (nI k)] [] h else zm_den 2 128 93 [.ref 137, .int (nI j), .int 1, .int (nI k)] [] h := by
      rw [zb128_50, if_neg h10, zm_nx, zb128_54, Q.1.1, zoi8, h8, zoi9, h9, dl, if_neg (nI_ge (by omega) (by omega)), zm_nx, zb128_67, Q.1.1, zoi9, h9, nI_add, zq_rc_o, by_, zq_bi_o, Q.1.1, zor13, zor12, c141, zq_al_o (show j < 6 by omega) (by decide), ej, nI_add, c142, zq_al_o (show tk_en j + k < 22 by omega) (by decide), fl, zm_nx, zm_nx]
    by_cases z : t.2 (q + k) = tk_nc j k
    · obtain ⟨v2, v3, e1⟩ := ih (k + 1) (by omega)
      refine ⟨v2, v3, ?_⟩
      rw [S, if_neg (not_not_intro z), zb128_93, zm_nx, zb128_98, zm_nx, nI_1, e1]
      have : tk_eq t.2 j q (m + 1) k = tk_eq t.2 j q m (k + 1) := if_pos z
      rw [this]
    · refine ⟨.int 0, .int (nI (k + 1)), ?_⟩
      have : tk_eq t.2 j q (m + 1) k = false := if_neg z
      rw [S, if_pos z, zb128_97, zm_nx, zb128_98, zm_nx, nI_1, zb128_50, if_pos rfl, zm_nx, zb128_105, if_pos rfl, zm_nx, zb128_111, zm_nx, nI_1, this, if_neg (by decide)]
theorem qm_nm_j {j q e : Nat} {v2 v3 : Value} (hj : j < 5) (B : zo_B h0 t A0) (B2 : zo_B2 h0) (Q : zo_Q h0 h A0 g0 A r) (h10' : A 10 = 1) (h8 : A 8 = nI e) (h9 : A 9 = nI q) (he : e ≤ t.1) (hqe : q ≤ e) : ∃ v2' v3', zm_den 2 128 2 [.ref 137, .int (nI j), v2, v3] [] h = if tk_is t.2 j q e = true then some (some (.int (nI j)), h) else zm_den 2 128 2 [.ref 137, .int (nI (j + 1)), v2', v3'] [] h := by
  have h10 : ¬ (1 : Int32) = 0 := by decide
  have b2 := B.2.1
  have nl := tk_nl_lt j hj
  have en := tk_en_l j hj
  obtain ⟨⟨E, c1, c2⟩, -⟩ := id B2
  have c141 : zm_g h (137 + 4) = .inl (0, 6, .inl E) := (Q.2.2.2.2.2 141 (by decide) (by decide)).trans c1
  have ej : E j = nI (tk_en j) := (c2 j (by omega)).trans (tk_en_e j (by omega))
  have ej1 : E (j + 1) = nI (tk_en (j + 1)) := (c2 (j + 1) (by omega)).trans (tk_en_e (j + 1) (by omega))
  have dl : nI e - nI q = nI (e - q) := pk_sub hqe
  have d2 : nI (tk_en (j + 1)) - nI (tk_en j) = nI (tk_nl j) := by rw [pk_sub (by omega), show tk_en (j + 1) - tk_en j = tk_nl j by omega]
  have S : zm_den 2 128 2 [.ref 137, .int (nI j), v2, v3] [] h = if ¬ nI (e - q) = nI (tk_nl j) then zm_den 2 128 46 [.ref 137, .int (nI j), v2, v3] [] h else zm_den 2 128 42 [.ref 137, .int (nI j), v2, v3] [] h := by
    rw [zb128_2, if_neg (show ¬ (5 : Int32) ≤ nI j from nI_ge (b := 5) hj (by decide)), zm_nx, zb128_7, Q.1.1, zoi10, h10', if_neg (not_not_intro rfl), zm_nx, zb128_15, Q.1.1, zoi8, h8, zoi9, h9, zor12, c141, nI_1, zq_al_o (show j + 1 < 6 by omega) (by decide), ej1, zor12, c141, zq_al_o (show j < 6 by omega) (by decide), ej, dl, d2, zm_nx, zm_nx]
  by_cases z : e - q = tk_nl j
  · obtain ⟨w2, w3, e1⟩ := qm_nm_i hj B B2 Q h8 h9 he hqe z (tk_nl j) 0 (by omega)
    refine ⟨w2, w3, ?_⟩
    have : tk_is t.2 j q e = tk_eq t.2 j q (tk_nl j) 0 := if_pos z
    rw [S, if_neg (not_not_intro (by rw [z])), zb128_42, zm_nx, zb128_47, zm_nx, this]
    exact e1
  · refine ⟨.int 0, .int 0, ?_⟩
    have : tk_is t.2 j q e = false := if_neg z
    rw [S, if_pos (fun w => z ((nI_eq (by omega) (by omega)).mp w)), zb128_46, zm_nx, zb128_47, zm_nx, zb128_50, if_pos rfl, zm_nx, zb128_105, if_pos rfl, zm_nx, zb128_111, zm_nx, nI_1, this, if_neg (by decide)]
/-- the name that the reference sees -/
theorem qm_name (B : zo_B h0 t A0) (B2 : zo_B2 h0) (hp : p ≤ t.1) (Q : zo_Q h0 h A0 g0 A r) (LA : zo_LA t A p) (n3 : ¬ tk_S t p = 3) : zm_call 128 [.ref 137] h = some (some (.int (if tk_N t p < 5 then nI (tk_N t p) else -4)), h) := by
  obtain ⟨l8, l9, -, lr⟩ := LA
  obtain ⟨-, l10, -⟩ := lr n3
  have hE := tk_E_le hp
  have sl := tk_S_lt (t := t) (p := p)
  have S : zm_call 128 [.ref 137] h = zm_den 2 128 2 [.ref 137, .int (nI 0), .null, .null] [] h := by
    rw [zc128, zm_nx, zb128_0, zm_nx]
    rfl
  unfold tk_N
  by_cases z : tk_S t p = 0
  · have k1 : A 10 = 1 := by rw [l10, z]; decide
    obtain ⟨_, _, f0⟩ := qm_nm_j (j := 0) (v2 := .null) (v3 := .null) (by decide) B B2 Q k1 l8 l9 hE.2.1 hE.1
    obtain ⟨_, _, f1⟩ := qm_nm_j (j := 1) (by decide) B B2 Q k1 l8 l9 hE.2.1 hE.1
    obtain ⟨_, _, f2⟩ := qm_nm_j (j := 2) (by decide) B B2 Q k1 l8 l9 hE.2.1 hE.1
    obtain ⟨_, _, f3⟩ := qm_nm_j (j := 3) (by decide) B B2 Q k1 l8 l9 hE.2.1 hE.1
    obtain ⟨_, _, f4⟩ := qm_nm_j (j := 4) (by decide) B B2 Q k1 l8 l9 hE.2.1 hE.1
    rw [S, f0, if_pos z]
    unfold tk_nm
    by_cases y0 : tk_is t.2 0 (tk_Q t p) (tk_E t p) = true
    · rw [if_pos y0, if_pos y0, if_pos (by decide)]
    rw [if_neg y0, if_neg y0, f1]
    by_cases y1 : tk_is t.2 1 (tk_Q t p) (tk_E t p) = true
    · rw [if_pos y1, if_pos y1, if_pos (by decide)]
    rw [if_neg y1, if_neg y1, f2]
    by_cases y2 : tk_is t.2 2 (tk_Q t p) (tk_E t p) = true
    · rw [if_pos y2, if_pos y2, if_pos (by decide)]
    rw [if_neg y2, if_neg y2, f3]
    by_cases y3 : tk_is t.2 3 (tk_Q t p) (tk_E t p) = true
    · rw [if_pos y3, if_pos y3, if_pos (by decide)]
    rw [if_neg y3, if_neg y3, f4]
    by_cases y4 : tk_is t.2 4 (tk_Q t p) (tk_E t p) = true
    · rw [if_pos y4, if_pos y4, if_pos (by decide)]
    rw [if_neg y4, if_neg y4, if_neg (by decide), zb128_2, if_pos (by decide), zm_nx, zb128_117]
  · have k1 : ¬ A 10 = 1 := by
      rw [l10]
      have : ∀ s, s < 5 → ¬ s = 0 → ¬ s = 3 → ¬ nI (tk_K s) = (1 : Int32) := by decide
      exact this _ sl z n3
    rw [S, if_neg z, if_neg (by decide), zb128_2, if_neg (by decide), zm_nx, zb128_7, Q.1.1, zoi10, if_pos k1, zm_nx, zb128_117]
end ZT85
