section ZT93
variable {h h0 : zm_H} {fs : List Value} {v1 : Value} {x1 : Int32}
theorem zgr_set {ci k x : Nat} {f : Nat → zm_O} (hk : k < fs.length) : zq_gr (.inr (ci, fs.set k (.ref x))) ci k f = f x := by
  unfold zq_gr
  simp [hk]
theorem qk61_n {n : Nat} (x : va_E) (k : Nat) (hk : k ≤ 1000) (h0n : 0 < n) (hn : h.1 = n) (hc : zm_g h 0 = .inr (6, fs)) (y : va_E) : zx_E h (zm_s (zm_n h k x) 0 y) 0 n (n + 1) ∧ zm_g (zm_s (zm_n h k x) 0 y) 0 = y ∧ zm_g (zm_s (zm_n h k x) 0 y) n = x := zx_np hn hk h0n
theorem qk61_rl (hf : fs.length = 14) : ∀ (k i : Nat) (h : zm_H), i + k = 9 → zm_g h 0 = .inr (6, fs.set 3 (.ref 22)) → zx_E h0 h 0 22 (23 + 7 * i) → (∃ g, zm_g h 22 = .inl (4, 9, .inr (.inr (.inr (.inr g)))) ∧ ∀ j, j < i → g j = some (23 + 7 * j)) → (∀ j, j < i → ∃ ad n v, zr_W h (23 + 7 * j) ad n v) → ∃ h', zm_den 5 61 48 [.ref 0, .int (nI i)] [] h = zm_den 5 61 76 [.ref 0, .int (nI 9)] [] h' ∧ zm_g h' 0 = .inr (6, fs.set 3 (.ref 22)) ∧ zx_E h0 h' 0 22 (23 + 7 * 9) ∧ (∃ g, zm_g h' 22 = .inl (4, 9, .inr (.inr (.inr (.inr g)))) ∧ ∀ j, j < 9 → g j = some (23 + 7 * j)) ∧ ∀ j, j < 9 → ∃ ad n v, zr_W h' (23 + 7 * j) ad n v := by
  intro k
  have zgr : ∀ f : Nat → zm_O, zq_gr (.inr (6, fs.set 3 (.ref 22))) 6 3 f = f 22 := fun f => zgr_set (by omega)
  induction k with
  | zero =>
    intro i h hi hc hE hg hF
    have : i = 9 := by omega
    subst this
    refine ⟨h, ?_, hc, hE, hg, hF⟩
    obtain ⟨g, g1, g2⟩ := hg
    rw [zb61_48, hc, zgr, g1, zq_ln_q, if_pos (by decide), zm_nx]
  | succ k ih =>
    intro i h hi hc hE hg hF
    obtain ⟨g, g1, g2⟩ := hg
    have n1 := hE.2.1
    have E1 : zx_E h0 (zm_n h (zm_df 2).length (.inr (2, zm_df 2))) 0 22 (23 + 7 * i + 1) := zE_n hE (by decide)
    obtain ⟨h2, e2, R2, F2⟩ := qk18 (a := 23 + 7 * i) (by omega) E1.2.1 (zn_gs n1)
    have E2 := zE_t E1 F2 (Or.inr ⟨by omega, by omega⟩)
    have c2 : zm_g h2 0 = .inr (6, fs.set 3 (.ref 22)) := by rw [F2.2.2.2.2 0 (by omega) (by omega), zn_gn n1 (by omega)]; exact hc
    have a2 : zm_g h2 22 = .inl (4, 9, .inr (.inr (.inr (.inr g)))) := by rw [F2.2.2.2.2 22 (by omega) (by omega), zn_gn n1 (by omega)]; exact g1
    have cl : ∃ q, zm_g h2 (23 + 7 * i) = .inr (2, q) := by
      exact ⟨_, R2.2.1⟩
    obtain ⟨q, cl⟩ := cl
    have E3 : zx_E h0 (zm_s h2 22 (.inl (4, 9, .inr (.inr (.inr (.inr (va_up g i (some (23 + 7 * i))))))))) 0 22 (23 + 7 * (i + 1)) := by
      have := zE_s (b := 22) (x := .inl (4, 9, .inr (.inr (.inr (.inr (va_up g i (some (23 + 7 * i)))))))) E2 (Or.inr ⟨by omega, by omega⟩)
      rw [show 23 + 7 * (i + 1) = 23 + 7 * i + 7 by omega]
      exact this
    obtain ⟨h', e1, e3⟩ := ih (i + 1) _ (by omega) (by rw [zg_sn (by omega)]; exact c2) E3 ⟨_, zg_ss, fun j hj => by
      by_cases z : j = i
      · subst z; exact zx_vs
      · rw [zx_vn z]; exact g2 j (by omega)⟩ (fun j hj => by
      by_cases z : j = i
      · subst z
        exact ⟨_, _, _, zr_keep R2 fun b b1 b2 => zg_sn (by omega)⟩
      · have := hF j (by omega)
        obtain ⟨ad, n, v, W⟩ := this
        exact ⟨ad, n, v, zr_keep W fun b b1 b2 => by rw [zg_sn (by omega), F2.2.2.2.2 b (by omega) (by omega), zn_gn n1 (by omega)]⟩)
    refine ⟨h', ?_, e3⟩
    rw [zb61_48, hc, zgr, g1, zq_ln_q, if_neg (show ¬ nI 9 ≤ nI i from nI_ge (b := 9) (by omega) (by decide)), zm_nx, zb61_57, hc, zgr, zq_nw_o n1 (by omega), zq_o_o (by omega), e2, zq_bv_o, a2, cl, zq_qs_o (show i < 9 by omega) (by decide), zm_nx, nI_1]
    exact e1
theorem qk61_r (hf : fs.length = 14) (hn : h.1 = 22) (hc : zm_g h 0 = .inr (6, fs)) : ∃ h', zm_den 5 61 37 [.ref 0, v1] [] h = zm_den 5 61 76 [.ref 0, .int (nI 9)] [] h' ∧ zm_g h' 0 = .inr (6, fs.set 3 (.ref 22)) ∧ zx_E h h' 0 22 (23 + 7 * 9) ∧ (∃ g, zm_g h' 22 = .inl (4, 9, .inr (.inr (.inr (.inr g)))) ∧ ∀ j, j < 9 → g j = some (23 + 7 * j)) ∧ ∀ j, j < 9 → ∃ ad n v, zr_W h' (23 + 7 * j) ad n v := by
  obtain ⟨E1, c1, d1⟩ := qk61_n (.inl (4, 9, .inr (.inr (.inr (.inr (fun _ => none)))))) 9 (by decide) (by omega) hn hc (.inr (6, fs.set 3 (.ref 22)))
  obtain ⟨h', e1, e2⟩ := qk61_rl (h0 := h) hf 9 0 _ (by omega) c1 E1 ⟨_, d1, fun j hj => absurd hj (Nat.not_lt_zero _)⟩ (fun j hj => absurd hj (Nat.not_lt_zero _))
  refine ⟨h', ?_, e2⟩
  rw [zb61_37, zq_nw_o hn (by omega), zn_gn hn (by omega), hc, zq_pr_o (by omega), zm_nx, zb61_46, zm_nx]
  exact e1
theorem qk61_pl (hf : fs.length = 14) : ∀ (k i : Nat) (h : zm_H), i + k = 2 → zm_g h 0 = .inr (6, fs.set 10 (.ref 106)) → zx_E h0 h 0 106 (107 + 10 * i) → (∃ g, zm_g h 106 = .inl (5, 2, .inr (.inr (.inr (.inr g)))) ∧ ∀ j, j < i → g j = some (107 + 10 * j)) → (∀ j, j < i → zp_V h (107 + 10 * j) zp_new) → ∃ h', zm_den 5 61 124 [.ref 0, .int (nI i)] [] h = zm_den 5 61 148 [.ref 0, .int (nI 2)] [] h' ∧ zm_g h' 0 = .inr (6, fs.set 10 (.ref 106)) ∧ zx_E h0 h' 0 106 (107 + 10 * 2) ∧ (∃ g, zm_g h' 106 = .inl (5, 2, .inr (.inr (.inr (.inr g)))) ∧ ∀ j, j < 2 → g j = some (107 + 10 * j)) ∧ ∀ j, j < 2 → zp_V h' (107 + 10 * j) zp_new := by
  intro k
  have zgr : ∀ f : Nat → zm_O, zq_gr (.inr (6, fs.set 10 (.ref 106))) 6 10 f = f 106 := fun f => zgr_set (by omega)
  induction k with
  | zero =>
    intro i h hi hc hE hg hF
    have : i = 2 := by omega
    subst this
    refine ⟨h, ?_, hc, hE, hg, hF⟩
    obtain ⟨g, g1, g2⟩ := hg
    rw [zb61_124, if_pos (by decide), zm_nx]
  | succ k ih =>
    intro i h hi hc hE hg hF
    obtain ⟨g, g1, g2⟩ := hg
    have n1 := hE.2.1
    have E1 : zx_E h0 (zm_n h (zm_df 1).length (.inr (1, zm_df 1))) 0 106 (107 + 10 * i + 1) := zE_n hE (by decide)
    obtain ⟨h2, e2, R2, F2⟩ := qk28 (a := 107 + 10 * i) (by omega) E1.2.1 (zn_gs n1)
    have E2 := zE_t E1 F2 (Or.inr ⟨by omega, by omega⟩)
    have c2 : zm_g h2 0 = .inr (6, fs.set 10 (.ref 106)) := by rw [F2.2.2.2.2 0 (by omega) (by omega), zn_gn n1 (by omega)]; exact hc
    have a2 : zm_g h2 106 = .inl (5, 2, .inr (.inr (.inr (.inr g)))) := by rw [F2.2.2.2.2 106 (by omega) (by omega), zn_gn n1 (by omega)]; exact g1
    have cl : ∃ q, zm_g h2 (107 + 10 * i) = .inr (1, q) := by
      obtain ⟨ad, Q, -, -, w, -⟩ := zV_row R2
      exact ⟨_, w⟩
    obtain ⟨q, cl⟩ := cl
    have E3 : zx_E h0 (zm_s h2 106 (.inl (5, 2, .inr (.inr (.inr (.inr (va_up g i (some (107 + 10 * i))))))))) 0 106 (107 + 10 * (i + 1)) := by
      have := zE_s (b := 106) (x := .inl (5, 2, .inr (.inr (.inr (.inr (va_up g i (some (107 + 10 * i)))))))) E2 (Or.inr ⟨by omega, by omega⟩)
      rw [show 107 + 10 * (i + 1) = 107 + 10 * i + 10 by omega]
      exact this
    obtain ⟨h', e1, e3⟩ := ih (i + 1) _ (by omega) (by rw [zg_sn (by omega)]; exact c2) E3 ⟨_, zg_ss, fun j hj => by
      by_cases z : j = i
      · subst z; exact zx_vs
      · rw [zx_vn z]; exact g2 j (by omega)⟩ (fun j hj => by
      by_cases z : j = i
      · subst z
        exact zV_keep R2 fun b b1 b2 => zg_sn (by omega)
      · have := hF j (by omega)
        exact zV_keep this fun b b1 b2 => by rw [zg_sn (by omega), F2.2.2.2.2 b (by omega) (by omega), zn_gn n1 (by omega)])
    refine ⟨h', ?_, e3⟩
    rw [zb61_124, if_neg (show ¬ (2 : Int32) ≤ nI i from nI_ge (b := 2) (by omega) (by decide)), zm_nx, zb61_129, hc, zgr, zq_nw_o n1 (by omega), zq_o_o (by omega), e2, zq_bv_o, a2, cl, zq_qs_o (show i < 2 by omega) (by decide), zm_nx, nI_1]
    exact e1
theorem qk61_p (hf : fs.length = 14) (hn : h.1 = 106) (hc : zm_g h 0 = .inr (6, fs)) : ∃ h', zm_den 5 61 114 [.ref 0, .int x1] [] h = zm_den 5 61 148 [.ref 0, .int (nI 2)] [] h' ∧ zm_g h' 0 = .inr (6, fs.set 10 (.ref 106)) ∧ zx_E h h' 0 106 (107 + 10 * 2) ∧ (∃ g, zm_g h' 106 = .inl (5, 2, .inr (.inr (.inr (.inr g)))) ∧ ∀ j, j < 2 → g j = some (107 + 10 * j)) ∧ ∀ j, j < 2 → zp_V h' (107 + 10 * j) zp_new := by
  obtain ⟨E1, c1, d1⟩ := qk61_n (.inl (5, 2, .inr (.inr (.inr (.inr (fun _ => none)))))) 2 (by decide) (by omega) hn hc (.inr (6, fs.set 10 (.ref 106)))
  obtain ⟨h', e1, e2⟩ := qk61_pl (h0 := h) hf 2 0 _ (by omega) c1 E1 ⟨_, d1, fun j hj => absurd hj (Nat.not_lt_zero _)⟩ (fun j hj => absurd hj (Nat.not_lt_zero _))
  refine ⟨h', ?_, e2⟩
  rw [zb61_114, zq_nw_o hn (by omega), zn_gn hn (by omega), hc, zq_pr_o (by omega), zm_nx, zb61_122, zm_nx]
  exact e1
theorem qk61_sl (hf : fs.length = 14) : ∀ (k i : Nat) (h : zm_H), i + k = 4 → zm_g h 0 = .inr (6, fs.set 12 (.ref 128)) → zx_E h0 h 0 128 (129 + 2 * i) → (∃ g, zm_g h 128 = .inl (6, 4, .inr (.inr (.inr (.inr g)))) ∧ ∀ j, j < i → g j = some (129 + 2 * j)) → (∀ j, j < i → (zm_g h (129 + 2 * j) = .inr (3, [.ref ((129 + 2 * j) + 1), .int (-1), .int 0]) ∧ zm_g h ((129 + 2 * j) + 1) = .inl (0, 40, .inl (fun _ => 0)))) → ∃ h', zm_den 5 61 165 [.ref 0, .int (nI i)] [] h = zm_den 5 61 189 [.ref 0, .int (nI 4)] [] h' ∧ zm_g h' 0 = .inr (6, fs.set 12 (.ref 128)) ∧ zx_E h0 h' 0 128 (129 + 2 * 4) ∧ (∃ g, zm_g h' 128 = .inl (6, 4, .inr (.inr (.inr (.inr g)))) ∧ ∀ j, j < 4 → g j = some (129 + 2 * j)) ∧ ∀ j, j < 4 → (zm_g h' (129 + 2 * j) = .inr (3, [.ref ((129 + 2 * j) + 1), .int (-1), .int 0]) ∧ zm_g h' ((129 + 2 * j) + 1) = .inl (0, 40, .inl (fun _ => 0))) := by
  intro k
  have zgr : ∀ f : Nat → zm_O, zq_gr (.inr (6, fs.set 12 (.ref 128))) 6 12 f = f 128 := fun f => zgr_set (by omega)
  induction k with
  | zero =>
    intro i h hi hc hE hg hF
    have : i = 4 := by omega
    subst this
    refine ⟨h, ?_, hc, hE, hg, hF⟩
    obtain ⟨g, g1, g2⟩ := hg
    rw [zb61_165, if_pos (by decide), zm_nx]
  | succ k ih =>
    intro i h hi hc hE hg hF
    obtain ⟨g, g1, g2⟩ := hg
    have n1 := hE.2.1
    have E1 : zx_E h0 (zm_n h (zm_df 3).length (.inr (3, zm_df 3))) 0 128 (129 + 2 * i + 1) := zE_n hE (by decide)
    obtain ⟨h2, e2, R2, R2b, F2⟩ := qk56 (a := 129 + 2 * i) (by omega) E1.2.1 (zn_gs n1)
    have E2 := zE_t E1 F2 (Or.inr ⟨by omega, by omega⟩)
    have c2 : zm_g h2 0 = .inr (6, fs.set 12 (.ref 128)) := by rw [F2.2.2.2.2 0 (by omega) (by omega), zn_gn n1 (by omega)]; exact hc
    have a2 : zm_g h2 128 = .inl (6, 4, .inr (.inr (.inr (.inr g)))) := by rw [F2.2.2.2.2 128 (by omega) (by omega), zn_gn n1 (by omega)]; exact g1
    have cl : ∃ q, zm_g h2 (129 + 2 * i) = .inr (3, q) := by
      exact ⟨_, R2⟩
    obtain ⟨q, cl⟩ := cl
    have E3 : zx_E h0 (zm_s h2 128 (.inl (6, 4, .inr (.inr (.inr (.inr (va_up g i (some (129 + 2 * i))))))))) 0 128 (129 + 2 * (i + 1)) := by
      have := zE_s (b := 128) (x := .inl (6, 4, .inr (.inr (.inr (.inr (va_up g i (some (129 + 2 * i)))))))) E2 (Or.inr ⟨by omega, by omega⟩)
      rw [show 129 + 2 * (i + 1) = 129 + 2 * i + 2 by omega]
      exact this
    obtain ⟨h', e1, e3⟩ := ih (i + 1) _ (by omega) (by rw [zg_sn (by omega)]; exact c2) E3 ⟨_, zg_ss, fun j hj => by
      by_cases z : j = i
      · subst z; exact zx_vs
      · rw [zx_vn z]; exact g2 j (by omega)⟩ (fun j hj => by
      by_cases z : j = i
      · subst z
        exact ⟨by rw [zg_sn (by omega)]; exact R2, by rw [zg_sn (by omega)]; exact R2b⟩
      · have := hF j (by omega)
        exact ⟨by rw [zg_sn (by omega), F2.2.2.2.2 _ (by omega) (by omega), zn_gn n1 (by omega)]; exact this.1, by rw [zg_sn (by omega), F2.2.2.2.2 _ (by omega) (by omega), zn_gn n1 (by omega)]; exact this.2⟩)
    refine ⟨h', ?_, e3⟩
    rw [zb61_165, if_neg (show ¬ (4 : Int32) ≤ nI i from nI_ge (b := 4) (by omega) (by decide)), zm_nx, zb61_170, hc, zgr, zq_nw_o n1 (by omega), zq_o_o (by omega), e2, zq_bv_o, a2, cl, zq_qs_o (show i < 4 by omega) (by decide), zm_nx, nI_1]
    exact e1
theorem qk61_s (hf : fs.length = 14) (hn : h.1 = 128) (hc : zm_g h 0 = .inr (6, fs)) : ∃ h', zm_den 5 61 155 [.ref 0, .int x1] [] h = zm_den 5 61 189 [.ref 0, .int (nI 4)] [] h' ∧ zm_g h' 0 = .inr (6, fs.set 12 (.ref 128)) ∧ zx_E h h' 0 128 (129 + 2 * 4) ∧ (∃ g, zm_g h' 128 = .inl (6, 4, .inr (.inr (.inr (.inr g)))) ∧ ∀ j, j < 4 → g j = some (129 + 2 * j)) ∧ ∀ j, j < 4 → (zm_g h' (129 + 2 * j) = .inr (3, [.ref ((129 + 2 * j) + 1), .int (-1), .int 0]) ∧ zm_g h' ((129 + 2 * j) + 1) = .inl (0, 40, .inl (fun _ => 0))) := by
  obtain ⟨E1, c1, d1⟩ := qk61_n (.inl (6, 4, .inr (.inr (.inr (.inr (fun _ => none)))))) 4 (by decide) (by omega) hn hc (.inr (6, fs.set 12 (.ref 128)))
  obtain ⟨h', e1, e2⟩ := qk61_sl (h0 := h) hf 4 0 _ (by omega) c1 E1 ⟨_, d1, fun j hj => absurd hj (Nat.not_lt_zero _)⟩ (fun j hj => absurd hj (Nat.not_lt_zero _))
  refine ⟨h', ?_, e2⟩
  rw [zb61_155, zq_nw_o hn (by omega), zn_gn hn (by omega), hc, zq_pr_o (by omega), zm_nx, zb61_163, zm_nx]
  exact e1
theorem qk61_d (hf : fs.length = 14) (hn : h.1 = 86) (hc : zm_g h 0 = .inr (6, fs)) : ∃ h', zm_den 5 61 76 [.ref 0, .int x1] [] h = zm_den 5 61 87 [.ref 0, .int x1] [] h' ∧ zm_g h' 0 = .inr (6, fs.set 4 (.ref 86)) ∧ zx_E h h' 0 86 91 ∧ (∃ g, zm_g h' 86 = .inl (7, 4, .inr (.inr (.inr (.inr g)))) ∧ ∀ j, j < 4 → g j = some (87 + j)) ∧ ∀ j, j < 4 → ∃ w, zm_g h' (87 + j) = .inl (0, 31, .inl w) := by
  obtain ⟨g, eg⟩ : ∃ g : Nat → Option Nat, g = fun i => if i < 4 then some (h.1 + 1 + i) else none := ⟨_, rfl⟩
  obtain ⟨x, ex⟩ : ∃ x : va_E, x = .inl (0, 31, .inl (fun _ => 0)) := ⟨_, rfl⟩
  have E1 : zx_E h (zm_n h 4 (.inl (7, 4, .inr (.inr (.inr (.inr g)))))) 0 86 87 := zE_n (zE_rf hn) (by decide)
  have E2 := zE_n (x := x) (k := 31) E1 (by decide)
  have E3 := zE_n (x := x) (k := 31) E2 (by decide)
  have E4 := zE_n (x := x) (k := 31) E3 (by decide)
  have E5 := zE_n (x := x) (k := 31) E4 (by decide)
  have E6 := zE_s (b := 0) (x := .inr (6, fs.set 4 (.ref 86))) E5 (Or.inl rfl)
  refine ⟨_, ?_, zg_ss, E6, ⟨g, ?_, fun j hj => by rw [eg, hn]; exact if_pos hj⟩, fun j hj => ⟨fun _ => 0, ?_⟩⟩
  · have rw' : zm_rows (zm_n h 4 (.inl (7, 4, .inr (.inr (.inr (.inr g)))))) 31 4 = zm_n (zm_n (zm_n (zm_n (zm_n h 4 (.inl (7, 4, .inr (.inr (.inr (.inr g)))))) 31 x) 31 x) 31 x) 31 x := by rw [ex]; rfl
    have nn : ∀ f : Nat → zm_H → zm_O, zq_nn h f = f 86 (zm_n (zm_n (zm_n (zm_n (zm_n h 4 (.inl (7, 4, .inr (.inr (.inr (.inr g)))))) 31 x) 31 x) 31 x) 31 x) := fun f => by
      unfold zq_nn
      rw [← eg, rw', hn, if_pos (by decide)]
    rw [zb61_76, nn, zn_gn E4.2.1 (by omega), zn_gn E3.2.1 (by omega), zn_gn E2.2.1 (by omega), zn_gn E1.2.1 (by omega), zn_gn hn (by omega), hc, zq_pr_o (by omega), zm_nx]
  · rw [zg_sn (by omega), zn_gn E4.2.1 (by omega), zn_gn E3.2.1 (by omega), zn_gn E2.2.1 (by omega), zn_gn E1.2.1 (by omega), zn_gs hn]
  · rw [← ex, zg_sn (by omega)]
    by_cases z3 : j = 3
    · subst z3; rw [zn_gs E4.2.1]
    rw [zn_gn E4.2.1 (by omega)]
    by_cases z2 : j = 2
    · subst z2; rw [zn_gs E3.2.1]
    rw [zn_gn E3.2.1 (by omega)]
    by_cases z1 : j = 1
    · subst z1; rw [zn_gs E2.2.1]
    rw [zn_gn E2.2.1 (by omega)]
    have : j = 0 := by omega
    subst this
    rw [zn_gs E1.2.1]
end ZT93
