theorem zq_cp_7 {g g' : Nat → Int32} {f : va_E → zm_O} : zq_cp (.inl (0, 7, .inl g)) (.inl (0, 7, .inl g')) 0 0 7 f = f (.inl (0, 7, .inl (va_cpy g g' 0 0 7))) := by
  show (if ¬ (0 : Int32) < 0 ∧ ¬ (0 : Int32) < 0 ∧ ¬ (7 : Int32) < 0 ∧ (0 : Int32).toNatClampNeg + (7 : Int32).toNatClampNeg ≤ 7 ∧ (0 : Int32).toNatClampNeg + (7 : Int32).toNatClampNeg ≤ 7 then f (.inl (0, 7, .inl (va_cpy g g' (0 : Int32).toNatClampNeg (0 : Int32).toNatClampNeg (7 : Int32).toNatClampNeg))) else none) = _
  rw [if_pos (by decide)]
  rfl
section ZFILL
theorem qc_fill_l {a m : Nat} {x : Int32} (hm : m < 100000) : ∀ (k i : Nat) (h : zm_H) (g : Nat → Int32), i + k = m → zm_g h a = .inl (0, m, .inl g) → ∃ h', zm_den 1 1 5 [.ref a, .int x, .int (nI i), .int (nI m)] [] h = some (none, h') ∧ (∃ g', zm_g h' a = .inl (0, m, .inl g') ∧ (∀ j, j < i → g' j = g j) ∧ ∀ j, i ≤ j → j < m → g' j = x) ∧ zm_Fr h h' a (a + 1) := by
  intro k
  induction k with
  | zero =>
    intro i h g hi hg
    refine ⟨h, ?_, ⟨g, hg, fun _ _ => rfl, fun j h1 h2 => by omega⟩, zFr_rf _ _ _⟩
    rw [zb1_5]
    simp only [nI_leB hm (show i < 100000 by omega), show m ≤ i by omega, if_true, zm_nx, zb1_20]
  | succ k ih =>
    intro i h g hi hg
    obtain ⟨h', d1, ⟨g', d2, d3, d4⟩, d5⟩ := ih (i + 1) (zm_s h a (.inl (0, m, .inl (upd g i x)))) (upd g i x) (by omega) zg_ss
    refine ⟨h', ?_, ⟨g', d2, fun j hj => ?_, fun j h1 h2 => ?_⟩, zFr_tr (zFr_s (Nat.le_refl a) (by omega)) d5⟩
    · rw [zb1_5]
      simp only [nI_leB hm (show i < 100000 by omega), show ¬ m ≤ i by omega, if_false, zm_nx, zb1_10, hg, zq_as_o (show i < m by omega) (show m < 2 ^ 31 by omega), nI_1]
      exact d1
    · rw [d3 j (by omega), pk_un (by omega)]
    · by_cases e : j = i
      · subst e
        rw [d3 j (by omega), pk_us]
      · exact d4 j (by omega) h2
theorem qc_fill {h : zm_H} {a m : Nat} {x : Int32} {w : Nat → Int32} (hm : m < 100000) (hW : za_W h a m w) : ∃ h', zm_call 1 [.ref a, .int x] h = some (none, h') ∧ za_W h' a m (fun _ => x) ∧ zm_Fr h h' a (a + 1) := by
  obtain ⟨g, hg, -⟩ := hW
  obtain ⟨h', d1, ⟨g', d2, d3, d4⟩, d5⟩ := qc_fill_l (x := x) hm m 0 h g (by omega) hg
  refine ⟨h', ?_, ⟨g', d2, fun j hj => d4 j (by omega) hj⟩, d5⟩
  rw [zc1, zm_nx, zb1_0, hg, zq_ln_i (by decide), zm_nx]
  exact d1
end ZFILL
def zp_new : zp_T := (0, fun _ => (0, 0, 0), fun _ => 1, fun _ => 4, 0)
section ZPROV2
variable {h : zm_H} {p : Nat} {ad : Nat → Nat} {P : zp_T}
theorem qc_renew (hW : zp_W h p ad P) : ∃ h', zm_call 29 [.ref p] h = some (none, h') ∧ zp_W h' p ad (0, P.2.1, fun _ => 1, fun _ => 4, 0) ∧ zm_Fr h h' p (p + 10) := by
  obtain ⟨h1, h2, h3, h4, h5⟩ := id hW
  have F1 : zm_Fr h (zm_s h (p + 1) (.inr (2, [.ref (p + 1 + 1), .int (nI 0)]))) p (p + 10) := zFr_s (by omega) (by omega)
  have W1 := zr_num (m := 0) (by omega) h3
  obtain ⟨ha, a1, a2, a3⟩ := qc_fill (x := 1) (h := zm_s h (p + 1) (.inr (2, [.ref (p + 1 + 1), .int (nI 0)]))) (m := 7) (by decide) (za_keep h4 (zg_sn (by omega)))
  obtain ⟨hb, b1, b2, b3⟩ := qc_fill (x := 4) (h := ha) (a := p + 9) (m := 7) (w := P.2.2.2.1) (by decide) (za_keep h5 ((a3.2.2 _ (by omega)).trans (zg_sn (by omega))))
  have g0 : zm_g ha p = zm_g h p := (a3.2.2 p (by omega)).trans (zg_sn (by omega))
  have g1 : zm_g hb p = zm_g h p := (b3.2.2 p (by omega)).trans g0
  have n0 : (0 : Int32) = nI 0 := rfl
  refine ⟨zm_s hb p (.inr (1, [.ref (p + 1), .ref (p + 8), .ref (p + 9), .int (nI 0)])), ?_, ?_, zFr_tr F1 (zFr_tr (zFr_mn a3 (by omega) (by omega)) (zFr_tr (zFr_mn b3 (by omega) (by omega)) (zFr_s (Nat.le_refl p) (by omega))))⟩
  · rw [zc29, zm_nx, zb29_0]
    simp only [h2, zgr_1_0, h3.2.1, zpi_2_1, zg_sn (show p ≠ p + 1 by omega), zgr_1_1]
    rw [n0]
    simp only [a1, zq_bv_o, g0, h2, zgr_1_2, b1, g1, zpi_1_3]
  · refine ⟨show 0 < 100000 by decide, zg_ss, ?_, ?_, ?_⟩
    · exact zr_keepF (zr_keepF (zr_keepF W1 a3 (by omega)) b3 (by omega)) (zFr_s (lo := p) (hi := p + 1) (Nat.le_refl p) (by omega)) (by omega)
    · exact za_keep a2 ((zg_sn (by omega)).trans (b3.2.2 _ (by omega)))
    · exact za_keep b2 (zg_sn (by omega))
theorem qc_pcopy {q : Nat} {ad2 : Nat → Nat} {Q : zp_T} (hd : p + 10 ≤ q ∨ q + 10 ≤ p) (hW : zp_W h p ad P) (hQ : zp_W h q ad2 Q) : ∃ h', zm_call 30 [.ref p, .ref q] h = some (none, h') ∧ zp_W h' p ad (Q.1, (fun j => if j < Q.1 then Q.2.1 j else P.2.1 j), Q.2.2.1, Q.2.2.2.1, Q.2.2.2.2) ∧ zm_Fr h h' p (p + 10) := by
  obtain ⟨h1, h2, h3, ⟨g8, h4, h4'⟩, ⟨g9, h5, h5'⟩⟩ := id hW
  obtain ⟨k1, k2, k3, ⟨f8, k4, k4'⟩, ⟨f9, k5, k5'⟩⟩ := id hQ
  obtain ⟨ha, a1, a2, a3⟩ := qc_rcopy (by omega) h3 k3
  have o0 : zm_g ha p = zm_g h p := a3.2.2 _ (by omega)
  have o8 : zm_g ha (p + 8) = zm_g h (p + 8) := a3.2.2 _ (by omega)
  have o9 : zm_g ha (p + 9) = zm_g h (p + 9) := a3.2.2 _ (by omega)
  have q0 : zm_g ha q = zm_g h q := a3.2.2 _ (by omega)
  have q8 : zm_g ha (q + 8) = zm_g h (q + 8) := a3.2.2 _ (by omega)
  have q9 : zm_g ha (q + 9) = zm_g h (q + 9) := a3.2.2 _ (by omega)
  have F : zm_Fr ha (zm_s (zm_s (zm_s ha (p + 8) (.inl (0, 7, .inl (va_cpy f8 g8 0 0 7)))) (p + 9) (.inl (0, 7, .inl (va_cpy f9 g9 0 0 7)))) p (.inr (1, [.ref (p + 1), .ref (p + 8), .ref (p + 9), .int (nI Q.2.2.2.2)]))) p (p + 10) := zFr_tr (zFr_s (by omega) (by omega)) (zFr_tr (zFr_s (by omega) (by omega)) (zFr_s (by omega) (by omega)))
  refine ⟨_, ?_, ?_, zFr_tr (zFr_mn a3 (by omega) (by omega)) F⟩
  · rw [zc30, zm_nx, zb30_0]
    simp only [h2, zgr_1_0, k2, h3.2.1, zq_rc_o, a1, zq_bv_o, q0, o0, zgr_1_1, q8, o8, h4, k4, zq_cp_7]
    simp only [zg_sn (show q ≠ p + 8 by omega), zg_sn (show p ≠ p + 8 by omega), q0, o0, k2, h2, zgr_1_2, zg_sn (show q + 9 ≠ p + 8 by omega), zg_sn (show p + 9 ≠ p + 8 by omega), q9, o9, k5, h5, zq_cp_7, zg_sn (show q ≠ p + 9 by omega), zg_sn (show p ≠ p + 9 by omega), zgi_1_3, zpi_1_3]
  · refine ⟨k1, zg_ss, ?_, ⟨va_cpy f8 g8 0 0 7, ?_, fun j hj => ?_⟩, ⟨va_cpy f9 g9 0 0 7, ?_, fun j hj => ?_⟩⟩
    · exact zr_keep a2 fun b hb1 hb2 => by rw [zg_sn (by omega), zg_sn (by omega), zg_sn (by omega)]
    · rw [zg_sn (by omega), zg_sn (by omega), zg_ss]
    · rw [pk_cpy_in (by omega) (by omega)]
      simpa using k4' j hj
    · rw [zg_sn (by omega), zg_ss]
    · rw [pk_cpy_in (by omega) (by omega)]
      simpa using k5' j hj
def zp_fores : Nat → Nat → zp_T → (Nat → Int32) → Nat → Int32
  | 0, _, _, g => g
  | k + 1, i, P, g => zp_fores k (i + 1) (zp_pass P) (upd g i (zp_dec P))
theorem qc_fores_l {q : Nat} (hd : p + 10 ≤ q ∨ q + 1 ≤ p) : ∀ (k i : Nat) (h : zm_H) (P : zp_T) (g : Nat → Int32), i + k = 31 → P.2.2.2.2 + k < 100000 → zp_W h p ad P → zm_g h q = .inl (0, 31, .inl g) → ∃ h', zm_den 5 38 2 [.ref p, .ref q, .int 30, .int (nI i)] [] h = some (none, h') ∧ (∃ P', zp_W h' p ad P') ∧ zm_g h' q = .inl (0, 31, .inl (zp_fores k i P g)) ∧ (h'.1 = h.1 ∧ h'.2.1 = h.2.1) ∧ ∀ b, (b < p ∨ p + 10 ≤ b) → b ≠ q → zm_g h' b = zm_g h b := by
  intro k
  induction k with
  | zero =>
    intro i h P g hi hdd hW hg
    refine ⟨h, ?_, ⟨P, hW⟩, hg, ⟨rfl, rfl⟩, fun _ _ _ => rfl⟩
    rw [zb38_2]
    have : (30 : Int32) < nI i := by
      have := (nI_ltI (a := 30) (b := i) (by decide) (by omega)).mpr (by omega)
      exact this
    simp only [this, if_true, zm_nx, zb38_33]
  | succ k ih =>
    intro i h P g hi hdd hW hg
    have hdc := qc_dec hW.2.2.1
    have hW2 : zp_W (zm_s h q (.inl (0, 31, .inl (upd g i (zp_dec P))))) p ad P := zp_keep hW fun b h1 h2 => zg_sn (by omega)
    obtain ⟨h9, e1, e2, e3⟩ := qc_ppass hW2 (by omega)
    have hq9 : zm_g h9 q = .inl (0, 31, .inl (upd g i (zp_dec P))) := (e3.2.2 q (by omega)).trans zg_ss
    obtain ⟨h', d1, d2, d3, d4, d5⟩ := ih (i + 1) h9 (zp_pass P) (upd g i (zp_dec P)) (by omega) (by show P.2.2.2.2 + 1 + k < _; omega) e2 hq9
    refine ⟨h', ?_, d2, d3, ⟨d4.1.trans e3.1, d4.2.trans e3.2.1⟩, fun b hb hbq => (d5 b hb hbq).trans ((e3.2.2 b hb).trans (zg_sn hbq))⟩
    rw [zb38_2]
    have hl : ¬ (30 : Int32) < nI i := by
      intro z
      have := (nI_ltI (a := 30) (b := i) (by decide) (by omega)).mp z
      omega
    have hl2 : ¬ nI 31 ≤ nI i := by
      intro z
      have := (nI_leI (a := 31) (b := i) (by decide) (by omega)).mp z
      omega
    simp only [hl, if_false, zm_nx, zb38_7, hg, zq_ln_i (show ¬ (0 : Nat) = 8 by decide), hl2, zb38_13, hW.2.1, zgr_1_0, hW.2.2.1.2.1, zq_rc_o, hdc, zq_bi_o, zq_as_o (show i < 31 by omega) (show (31 : Nat) < 2 ^ 31 by decide)]
    have hz : zm_g (zm_s h q (.inl (0, 31, .inl (upd g i (zr_dec P.1 P.2.1))))) p = .inr (1, [.ref (p + 1), .ref (p + 8), .ref (p + 9), .int (nI P.2.2.2.2)]) := hW2.2.1
    have e1' : zm_call 32 [.ref p] (zm_s h q (.inl (0, 31, .inl (upd g i (zr_dec P.1 P.2.1))))) = some (none, h9) := e1
    simp only [hz, zq_rc_o, e1', zq_bv_o, nI_1]
    exact d1
theorem qc_fores {q : Nat} {g : Nat → Int32} (hd : p + 10 ≤ q ∨ q + 1 ≤ p) (hN : P.2.2.2.2 + 31 < 100000) (hW : zp_W h p ad P) (hg : zm_g h q = .inl (0, 31, .inl g)) : ∃ h', zm_call 38 [.ref p, .ref q, .int 30] h = some (none, h') ∧ (∃ P', zp_W h' p ad P') ∧ zm_g h' q = .inl (0, 31, .inl (zp_fores 31 0 P g)) ∧ (h'.1 = h.1 ∧ h'.2.1 = h.2.1) ∧ ∀ b, (b < p ∨ p + 10 ≤ b) → b ≠ q → zm_g h' b = zm_g h b := by
  obtain ⟨h', d1, d2⟩ := qc_fores_l (ad := ad) hd 31 0 h P g (by omega) hN hW hg
  refine ⟨h', ?_, d2⟩
  rw [zc38, zm_nx, zb38_0, zm_nx]
  exact d1
end ZPROV2
