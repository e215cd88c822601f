def zw_in (x lo hi : Int32) : Int32 := if x < lo then 0 else (if hi < x then 0 else 1)
def zw_fig (x : Int32) (n : Nat) : Int32 := if x < 0 then 0 else (if nI n ≤ x then 0 else 1)
theorem zw_lt (x y : Int32) : (x.toInt64 < y.toInt64) = (x < y) := by
  rw [Int64.lt_iff_toInt_lt, Int32.toInt_toInt64, Int32.toInt_toInt64, Int32.lt_iff_toInt_lt]
theorem qm_in {h : zm_H} (x lo hi : Int32) (l u : Int64) (hl : l = lo.toInt64) (hu : u = hi.toInt64) : zm_call 123 [.long x.toInt64, .long l, .long u] h = some (some (.int (zw_in x lo hi)), h) := by
  subst hl
  subst hu
  rw [zc123]
  simp only [zm_nx, zB123, lg_cmp_lt, lg_cmp_gt, zw_lt, zw_in]
  by_cases h1 : x < lo
  · simp only [h1, if_true, zq_rz_0]
  · by_cases h2 : hi < x
    · simp only [h1, h2, if_false, if_true, zq_rz_0]
    · simp only [h1, h2, if_false, zq_rz_1]
theorem qc_within {h : zm_H} (x u : Int32) : zm_call 105 [.int x, .int u] h = some (some (.int (zw_in x 0 u)), h) := by
  rw [zc105]
  simp only [zm_nx, zB105, zw_in]
  by_cases h1 : x < 0
  · simp only [h1, if_true, zq_rz_0]
  · by_cases h2 : u < x
    · simp only [h1, h2, if_false, if_true, zq_rz_0]
    · simp only [h1, h2, if_false, zq_rz_1]
theorem zw_in_c (x : Int32) {u : Nat} (hu : u < 2 ^ 31 - 1) : zw_in x 0 (nI u) = 0 ∨ ∃ j, j ≤ u ∧ x = nI j ∧ zw_in x 0 (nI u) = 1 := by
  unfold zw_in
  rcases pk_ix x (n := u + 1) (by omega) with h | h | ⟨j, hj, rfl⟩
  · rw [if_pos h]
    exact Or.inl rfl
  · by_cases h0 : x < 0
    · rw [if_pos h0]
      exact Or.inl rfl
    · have h2 : nI u < x := by
        rw [Int32.lt_iff_toInt_lt, nI_toInt (by omega)]
        rw [Int32.le_iff_toInt_le, nI_toInt (by omega)] at h
        omega
      rw [if_neg h0, if_pos h2]
      exact Or.inl rfl
  · have h0 : ¬ nI j < 0 := nI_pos (by omega)
    have h2 : ¬ nI u < nI j := nI_nlt (by omega) (by omega)
    rw [if_neg h0, if_neg h2]
    exact Or.inr ⟨j, by omega, rfl, rfl⟩
theorem zw_fig_c (x : Int32) {n : Nat} (hn : n ≤ 5) : zw_fig x n = 0 ∨ ∃ j, j < n ∧ x = nI j ∧ zw_fig x n = 1 := by
  unfold zw_fig
  rcases pk_ix x (n := n) (by omega) with h | h | ⟨j, hj, rfl⟩
  · rw [if_pos h]
    exact Or.inl rfl
  · by_cases h0 : x < 0
    · rw [if_pos h0]
      exact Or.inl rfl
    · rw [if_neg h0, if_pos h]
      exact Or.inl rfl
  · have h0 : ¬ nI j < 0 := nI_pos (by omega)
    have h2 : ¬ nI n ≤ nI j := nI_ge hj (by omega)
    rw [if_neg h0, if_neg h2]
    exact Or.inr ⟨j, hj, rfl, rfl⟩
theorem zw_fig_in (x : Int32) {n : Nat} (hn : n ≤ 5) : zw_in x 0 (nI n - 1) = zw_fig x n := by
  have e : (nI n - 1 < x) = (nI n ≤ x) := by
    rw [Int32.lt_iff_toInt_lt, Int32.le_iff_toInt_le]
    have : (nI n - 1).toInt = (nI n).toInt - 1 := by
      have h6 : ∀ n, n < 6 → (nI n - 1).toInt = (nI n).toInt - 1 := by decide +kernel
      exact h6 n (by omega)
    rw [this]
    exact propext (by omega)
  unfold zw_in zw_fig
  by_cases h1 : x < 0
  · rw [if_pos h1, if_pos h1]
  · rw [if_neg h1, if_neg h1]
    by_cases h2 : nI n ≤ x
    · rw [if_pos h2, if_pos (e ▸ h2)]
    · rw [if_neg h2, if_neg (e ▸ h2)]
/-- the cell of the class: its three integers -/
def zk_c (F k R : Int32) : List Value := [.ref 1, .ref 11, .ref 21, .ref 22, .ref 86, .ref 91, .int F, .ref 104, .ref 105, .int k, .ref 106, .ref 127, .ref 128, .int R]
section ZSYS
variable {h : zm_H} {P : zp_T} {F k R : Int32}
theorem zV_row {p : Nat} (hV : zp_V h p P) : ∃ ad Q, zp_W h p ad Q ∧ zp_eqv Q P ∧ zm_g h p = .inr (1, [.ref (p + 1), .ref (p + 8), .ref (p + 9), .int (nI P.2.2.2.2)]) ∧ zm_g h (p + 1) = .inr (2, [.ref (p + 2), .int (nI P.1)]) ∧ P.1 ≤ 5 ∧ P.2.2.2.2 < 100000 := by
  obtain ⟨ad, Q, h1, h2⟩ := hV
  have e1 := h1.2.1
  have e2 := h1.2.2.1.2.1
  have e3 := h1.2.2.1.1
  have e4 := h1.1
  rw [h2.2.2.2] at e1 e4
  rw [h2.1] at e2 e3
  exact ⟨ad, Q, h1, h2, e1, e2, e3, e4⟩
theorem qc_isfig {x : Int32} (h0 : zm_g h 0 = .inr (6, zk_c F k R)) (hV : zp_V h 1 P) : zm_call 106 [.ref 0, .int x] h = some (some (.int (zw_fig x P.1)), h) := by
  obtain ⟨ad, Q, -, -, e1, e2, -, -⟩ := zV_row hV
  rw [zc106]
  simp only [zm_nx, zB106, h0, zk_c, zgr_6_0, e1, zgr_1_0, e2, zgi_2_1, zw_fig]
  by_cases h1 : x < 0
  · simp only [h1, if_true, zq_rz_0]
  · by_cases h2 : nI P.1 ≤ x
    · simp only [h1, h2, if_false, if_true, zq_rz_0]
    · simp only [h1, h2, if_false, zq_rz_1]
theorem qm_isfig {m : Nat} {A g : Nat → Int32} {x : Int32} (hM : zo_M h m A g) (hP : zs_P g 0 P) (hn : P.1 ≤ 5) : zm_call 135 [.ref m, .int x] h = some (some (.int (zw_fig x P.1)), h) := by
  have hc : (186 : Nat) < 2 ^ 31 := by decide
  have e15 : ∀ f : Int32 → zm_O, zq_al (.inl (0, 186, .inl g)) 0 (15 : Int32) f = f (nI P.1) := fun f => by
    have : g 15 = nI P.1 := hP.1
    rw [← this]
    exact zq_al_o (j := 15) (by decide) hc
  have hi := qm_in (h := h) x 0 (nI P.1 - 1) (0 : Int64) (nI P.1 - 1).toInt64 (by decide) rfl
  rw [zc135, zm_nx, zb135_0]
  simp only [hM.1, zor0, hM.2, e15, hi, zq_bi_o, zw_fig_in x hn]
  rcases zw_fig_c x hn with e | ⟨j, -, -, e⟩
  · rw [e, zq_rz_0]
  · rw [e, zq_rz_1]
end ZSYS
