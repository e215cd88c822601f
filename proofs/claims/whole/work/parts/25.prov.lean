abbrev zp_T : Type := Nat × (Nat → zf_T) × (Nat → Int32) × (Nat → Int32) × Nat
def za_W (h : zm_H) (a m : Nat) (w : Nat → Int32) : Prop := ∃ g : Nat → Int32, zm_g h a = .inl (0, m, .inl g) ∧ ∀ j, j < m → g j = w j
theorem za_keep {h h' : zm_H} {a m : Nat} {w : Nat → Int32} (hW : za_W h a m w) (hk : zm_g h' a = zm_g h a) : za_W h' a m w := by
  obtain ⟨g, h1, h2⟩ := hW
  exact ⟨g, by rw [hk]; exact h1, h2⟩
def zp_W (h : zm_H) (p : Nat) (ad : Nat → Nat) (P : zp_T) : Prop := P.2.2.2.2 < 100000 ∧ zm_g h p = .inr (1, [.ref (p + 1), .ref (p + 8), .ref (p + 9), .int (nI P.2.2.2.2)]) ∧ zr_W h (p + 1) ad P.1 P.2.1 ∧ za_W h (p + 8) 7 P.2.2.1 ∧ za_W h (p + 9) 7 P.2.2.2.1
theorem zp_keep {h h' : zm_H} {p : Nat} {ad : Nat → Nat} {P : zp_T} (hW : zp_W h p ad P) (hk : ∀ b, p ≤ b → b < p + 10 → zm_g h' b = zm_g h b) : zp_W h' p ad P := by
  obtain ⟨h1, h2, h3, h4, h5⟩ := hW
  exact ⟨h1, by rw [hk p (by omega) (by omega)]; exact h2, zr_keep h3 (fun b h1 h2 => hk b (by omega) (by omega)), za_keep h4 (hk _ (by omega) (by omega)), za_keep h5 (hk _ (by omega) (by omega))⟩
theorem zp_keepF {h h' : zm_H} {p : Nat} {ad : Nat → Nat} {P : zp_T} {lo hi : Nat} (hW : zp_W h p ad P) (hF : zm_Fr h h' lo hi) (hd : p + 10 ≤ lo ∨ hi ≤ p) : zp_W h' p ad P := zp_keep hW fun b h1 h2 => hF.2.2 b (by omega)
def zp_pass (P : zp_T) : zp_T := (P.1, zr_pass (P.2.2.1 (P.2.2.2.2 % 7)) (P.2.2.2.1 (P.2.2.2.2 % 7)) P.1 P.2.1, P.2.2.1, P.2.2.2.1, P.2.2.2.2 + 1)
def zp_run : Nat → zp_T → zp_T
  | 0, P => P
  | k + 1, P => zp_run k (zp_pass P)
def zp_reign (P : zp_T) : Int32 := zr_reign P.1 P.2.1
def zp_dec (P : zp_T) : Int32 := zr_dec P.1 P.2.1
def zp_ruled (i : Int32) : Nat → zp_T → Int32 → Int32
  | 0, _, a => a
  | k + 1, P, a => zp_ruled i k (zp_pass P) (if ¬ zp_reign P = i then a else a + 1)
def zp_rulers : Nat → zp_T → Int32 → Int32
  | 0, _, a => a
  | k + 1, P, a => zp_rulers k (zp_pass P) (if zp_reign P = -4 then a else a ||| ((1 : Int32) <<< (zp_reign P &&& 31)))
def zp_chg : Nat → zp_T → Int32 → Int32
  | 0, _, a => a
  | k + 1, P, a => zp_chg k (zp_pass P) (if zp_reign (zp_pass P) = zp_reign P then a else a + 1)
theorem zm_rem7 (d : Nat) (h : d < 2 ^ 31) : nI d - nI d / 7 * 7 = nI (d % 7) := pk_rem (d := 7) h (by decide) (by decide)
section ZPROV
variable {h : zm_H} {p : Nat} {ad : Nat → Nat} {P : zp_T}
theorem qc_wday (hW : zp_W h p ad P) : zm_call 31 [.ref p] h = some (some (.int (nI (P.2.2.2.2 % 7))), h) := by
  obtain ⟨h1, h2, -⟩ := hW
  rw [zc31, zm_nx, zb31_0]
  simp only [h2, zgi_1_3]
  rw [zm_rem7 _ (by omega)]
theorem qc_ppass (hW : zp_W h p ad P) (hd : P.2.2.2.2 + 1 < 100000) : ∃ h', zm_call 32 [.ref p] h = some (none, h') ∧ zp_W h' p ad (zp_pass P) ∧ zm_Fr h h' p (p + 10) := by
  have hw := qc_wday hW
  obtain ⟨h1, h2, h3, ⟨g1, h4, h4'⟩, ⟨g2, h5, h5'⟩⟩ := id hW
  have hlt : P.2.2.2.2 % 7 < 7 := Nat.mod_lt _ (by decide)
  obtain ⟨h9, e1, e2, e3⟩ := qc_rpass (w := P.2.2.1 (P.2.2.2.2 % 7)) (d := P.2.2.2.1 (P.2.2.2.2 % 7)) h3
  have f0 : zm_g h9 p = zm_g h p := e3.2.2 p (by omega)
  have f8 : zm_g h9 (p + 8) = zm_g h (p + 8) := e3.2.2 _ (by omega)
  have f9 : zm_g h9 (p + 9) = zm_g h (p + 9) := e3.2.2 _ (by omega)
  refine ⟨zm_s h9 p (.inr (1, [.ref (p + 1), .ref (p + 8), .ref (p + 9), .int (nI (P.2.2.2.2 + 1))])), ?_, ?_, zFr_tr (zFr_mn e3 (by omega) (by omega)) (zFr_s (Nat.le_refl p) (by omega))⟩
  · rw [zc32, zm_nx, zb32_0]
    simp only [h2, zq_rc_o, hw, zq_bi_o, zgr_1_0, zgr_1_1, h4, zq_al_o hlt (show (7 : Nat) < 2 ^ 31 by decide), h4' _ hlt, zgr_1_2, h5, h5' _ hlt, h3.2.1, e1, zq_bv_o, f0, zgi_1_3, zpi_1_3, nI_1]
  · refine ⟨hd, zg_ss, zr_keepF e2 (zFr_s (lo := p) (hi := p + 1) (Nat.le_refl p) (by omega)) (by omega), ⟨g1, ?_, h4'⟩, ⟨g2, ?_, h5'⟩⟩
    · rw [zg_sn (by omega), f8]; exact h4
    · rw [zg_sn (by omega), f9]; exact h5
theorem nI_leB {a b : Nat} (ha : a < 100000) (hb : b < 100000) : (nI a ≤ nI b) = (a ≤ b) := propext (nI_leI (by omega) (by omega))
theorem zp_cell (hW : zp_W h p ad P) : ∃ fs, zm_g h p = .inr (1, fs) := ⟨_, hW.2.1⟩
theorem qc_prun_l {N : Nat} (hN : N < 100000) : ∀ (k i : Nat) (h : zm_H) (P : zp_T), i + k = N → P.2.2.2.2 + k < 100000 → zp_W h p ad P → ∃ h', zm_den 5 33 2 [.ref p, .int (nI N), .int (nI i)] [] h = some (none, h') ∧ zp_W h' p ad (zp_run k P) ∧ zm_Fr h h' p (p + 10) := by
  intro k
  induction k with
  | zero =>
    intro i h P hi hd hW
    refine ⟨h, ?_, hW, zFr_rf _ _ _⟩
    rw [zb33_2]
    simp only [nI_leB hN (show i < 100000 by omega), show N ≤ i by omega, if_true, zm_nx, zb33_17]
  | succ k ih =>
    intro i h P hi hd hW
    obtain ⟨h9, e1, e2, e3⟩ := qc_ppass hW (by omega)
    obtain ⟨h', d1, d2, d3⟩ := ih (i + 1) h9 (zp_pass P) (by omega) (by show P.2.2.2.2 + 1 + k < _; omega) e2
    refine ⟨h', ?_, d2, zFr_tr e3 d3⟩
    rw [zb33_2]
    simp only [nI_leB hN (show i < 100000 by omega), show ¬ N ≤ i by omega, if_false, zm_nx, zb33_7, hW.2.1, zq_rc_o, e1, zq_bv_o, nI_1]
    exact d1
theorem qc_prun {N : Nat} (hN : P.2.2.2.2 + N < 100000) (hW : zp_W h p ad P) : ∃ h', zm_call 33 [.ref p, .int (nI N)] h = some (none, h') ∧ zp_W h' p ad (zp_run N P) ∧ zm_Fr h h' p (p + 10) := by
  obtain ⟨h', d1, d2, d3⟩ := qc_prun_l (show N < 100000 by omega) N 0 h P (by omega) hN hW
  refine ⟨h', ?_, d2, d3⟩
  rw [zc33, zm_nx, zb33_0, zm_nx]
  exact d1
theorem qc_ruled_l {i0 : Int32} {N : Nat} (hN : N < 100000) : ∀ (k i : Nat) (a : Int32) (h : zm_H) (P : zp_T), i + k = N → P.2.2.2.2 + k < 100000 → zp_W h p ad P → ∃ h', zm_den 5 35 5 [.ref p, .int i0, .int (nI N), .int a, .int (nI i)] [] h = some (some (.int (zp_ruled i0 k P a)), h') ∧ zp_W h' p ad (zp_run k P) ∧ zm_Fr h h' p (p + 10) := by
  intro k
  induction k with
  | zero =>
    intro i a h P hi hd hW
    refine ⟨h, ?_, hW, zFr_rf _ _ _⟩
    rw [zb35_5]
    simp only [nI_leB hN (show i < 100000 by omega), show N ≤ i by omega, if_true, zm_nx, zb35_35, zp_ruled]
  | succ k ih =>
    intro i a h P hi hd hW
    have hr := qc_reign hW.2.2.1
    obtain ⟨h9, e1, e2, e3⟩ := qc_ppass hW (by omega)
    obtain ⟨h', d1, d2, d3⟩ := ih (i + 1) (if ¬ zp_reign P = i0 then a else a + 1) h9 (zp_pass P) (by omega) (by show P.2.2.2.2 + 1 + k < _; omega) e2
    refine ⟨h', ?_, d2, zFr_tr e3 d3⟩
    rw [zb35_5]
    simp only [nI_leB hN (show i < 100000 by omega), show ¬ N ≤ i by omega, if_false, zm_nx, zb35_11, hW.2.1, zgr_1_0, hW.2.2.1.2.1, zq_rc_o, hr, zq_bi_o, zp_ruled]
    by_cases hc : zp_reign P = i0
    · have hc' : zr_reign P.1 P.2.1 = i0 := hc
      simp only [hc, hc', not_true_eq_false, if_false] at d1 ⊢
      simp only [zb35_22, zm_nx, zb35_25, hW.2.1, zq_rc_o, e1, zq_bv_o, nI_1]
      exact d1
    · have hc' : ¬ zr_reign P.1 P.2.1 = i0 := hc
      simp only [hc, hc', not_false_eq_true, if_true] at d1 ⊢
      simp only [zm_nx, zb35_25, hW.2.1, zq_rc_o, e1, zq_bv_o, nI_1]
      exact d1
theorem qc_ruled {i0 : Int32} {N : Nat} (hN : P.2.2.2.2 + N < 100000) (hW : zp_W h p ad P) : ∃ h', zm_call 35 [.ref p, .int i0, .int (nI N)] h = some (some (.int (zp_ruled i0 N P 0)), h') ∧ zp_W h' p ad (zp_run N P) ∧ zm_Fr h h' p (p + 10) := by
  obtain ⟨h', d1, d2, d3⟩ := qc_ruled_l (i0 := i0) (show N < 100000 by omega) N 0 0 h P (by omega) hN hW
  refine ⟨h', ?_, d2, d3⟩
  rw [zc35, zm_nx, zb35_0, zm_nx]
  exact d1
theorem qc_unruled {N : Nat} (hN : P.2.2.2.2 + N < 100000) (hW : zp_W h p ad P) : ∃ h', zm_call 34 [.ref p, .int (nI N)] h = some (some (.int (zp_ruled (-4) N P 0)), h') ∧ zp_W h' p ad (zp_run N P) ∧ zm_Fr h h' p (p + 10) := by
  obtain ⟨h', d1, d2, d3⟩ := qc_ruled (i0 := -4) hN hW
  refine ⟨h', ?_, d2, d3⟩
  rw [zc34, zm_nx, zb34_0]
  simp only [hW.2.1, zq_rc_o, d1, zq_bi_o]
theorem qc_rulers_l {N : Nat} (hN : N < 100000) : ∀ (k i : Nat) (a : Int32) (w : Value) (h : zm_H) (P : zp_T), i + k = N → P.2.2.2.2 + k < 100000 → zp_W h p ad P → ∃ h', zm_den 5 36 4 [.ref p, .int (nI N), .int a, .int (nI i), w] [] h = some (some (.int (zp_rulers k P a)), h') ∧ zp_W h' p ad (zp_run k P) ∧ zm_Fr h h' p (p + 10) := by
  intro k
  induction k with
  | zero =>
    intro i a w h P hi hd hW
    refine ⟨h, ?_, hW, zFr_rf _ _ _⟩
    rw [zb36_4]
    simp only [nI_leB hN (show i < 100000 by omega), show N ≤ i by omega, if_true, zm_nx, zb36_42, zp_rulers]
  | succ k ih =>
    intro i a w h P hi hd hW
    have hr := qc_reign hW.2.2.1
    obtain ⟨h9, e1, e2, e3⟩ := qc_ppass hW (by omega)
    obtain ⟨h', d1, d2, d3⟩ := ih (i + 1) (if zp_reign P = -4 then a else a ||| ((1 : Int32) <<< (zp_reign P &&& 31))) (.int (zp_reign P)) h9 (zp_pass P) (by omega) (by show P.2.2.2.2 + 1 + k < _; omega) e2
    refine ⟨h', ?_, d2, zFr_tr e3 d3⟩
    rw [zb36_4]
    simp only [nI_leB hN (show i < 100000 by omega), show ¬ N ≤ i by omega, if_false, zm_nx, zb36_9, hW.2.1, zgr_1_0, hW.2.2.1.2.1, zq_rc_o, hr, zq_bi_o, zp_rulers]
    by_cases hc : zp_reign P = -4
    · have hc' : zr_reign P.1 P.2.1 = -4 := hc
      simp only [hc, hc', if_true] at d1 ⊢
      simp only [zm_nx, zb36_32, hW.2.1, zq_rc_o, e1, zq_bv_o, nI_1]
      exact d1
    · have hc' : ¬ zr_reign P.1 P.2.1 = -4 := hc
      simp only [hc, hc', if_false] at d1 ⊢
      simp only [zb36_25, zm_nx, zb36_32, hW.2.1, zq_rc_o, e1, zq_bv_o, nI_1]
      exact d1
theorem qc_rulers {N : Nat} (hN : P.2.2.2.2 + N < 100000) (hW : zp_W h p ad P) : ∃ h', zm_call 36 [.ref p, .int (nI N)] h = some (some (.int (zp_rulers N P 0)), h') ∧ zp_W h' p ad (zp_run N P) ∧ zm_Fr h h' p (p + 10) := by
  obtain ⟨h', d1, d2, d3⟩ := qc_rulers_l (show N < 100000 by omega) N 0 0 .null h P (by omega) hN hW
  refine ⟨h', ?_, d2, d3⟩
  rw [zc36, zm_nx, zb36_0, zm_nx]
  exact d1
theorem qc_chg_l {N : Nat} (hN : N < 100000) : ∀ (k i : Nat) (a : Int32) (w : Value) (h : zm_H) (P : zp_T), i + k = N → P.2.2.2.2 + k < 100000 → zp_W h p ad P → ∃ h', zm_den 5 37 4 [.ref p, .int (nI N), .int a, .int (nI i), w] [] h = some (some (.int (zp_chg k P a)), h') ∧ zp_W h' p ad (zp_run k P) ∧ zm_Fr h h' p (p + 10) := by
  intro k
  induction k with
  | zero =>
    intro i a w h P hi hd hW
    refine ⟨h, ?_, hW, zFr_rf _ _ _⟩
    rw [zb37_4]
    simp only [nI_leB hN (show i < 100000 by omega), show N ≤ i by omega, if_true, zm_nx, zb37_43, zp_chg]
  | succ k ih =>
    intro i a w h P hi hd hW
    have hr := qc_reign hW.2.2.1
    obtain ⟨h9, e1, e2, e3⟩ := qc_ppass hW (by omega)
    have hr2 := qc_reign e2.2.2.1
    obtain ⟨h', d1, d2, d3⟩ := ih (i + 1) (if zp_reign (zp_pass P) = zp_reign P then a else a + 1) (.int (zp_reign P)) h9 (zp_pass P) (by omega) (by show P.2.2.2.2 + 1 + k < _; omega) e2
    refine ⟨h', ?_, d2, zFr_tr e3 d3⟩
    rw [zb37_4]
    simp only [nI_leB hN (show i < 100000 by omega), show ¬ N ≤ i by omega, if_false, zm_nx, zb37_9, hW.2.1, zgr_1_0, hW.2.2.1.2.1, zq_rc_o, hr, zq_bi_o, e1, zq_bv_o, e2.2.1, e2.2.2.1.2.1, hr2, zp_chg]
    by_cases hc : zp_reign (zp_pass P) = zp_reign P
    · have hc' : zr_reign (zp_pass P).1 (zp_pass P).2.1 = zr_reign P.1 P.2.1 := hc
      simp only [hc, hc', if_true] at d1 ⊢
      simp only [zm_nx, zb37_37, nI_1]
      exact d1
    · have hc' : ¬ zr_reign (zp_pass P).1 (zp_pass P).2.1 = zr_reign P.1 P.2.1 := hc
      simp only [hc, hc', if_false] at d1 ⊢
      simp only [zb37_34, zm_nx, zb37_37, nI_1]
      exact d1
theorem qc_chg {N : Nat} (hN : P.2.2.2.2 + N < 100000) (hW : zp_W h p ad P) : ∃ h', zm_call 37 [.ref p, .int (nI N)] h = some (some (.int (zp_chg N P 0)), h') ∧ zp_W h' p ad (zp_run N P) ∧ zm_Fr h h' p (p + 10) := by
  obtain ⟨h', d1, d2, d3⟩ := qc_chg_l (show N < 100000 by omega) N 0 0 .null h P (by omega) hN hW
  refine ⟨h', ?_, d2, d3⟩
  rw [zc37, zm_nx, zb37_0, zm_nx]
  exact d1
end ZPROV
