section ZT92
variable {h h0 : zm_H} {a n : Nat}
theorem zx_vs {g : Nat → Option Nat} {i : Nat} {x : Option Nat} : va_up g i x i = x := by simp [va_up]
theorem zx_vn {g : Nat → Option Nat} {i j : Nat} {x : Option Nat} (hj : j ≠ i) : va_up g i x j = g j := by simp [va_up, hj]
theorem zx_np {k : Nat} {x y : va_E} (hn : h.1 = n) (hk : k ≤ 1000) (ha : a < n) : zx_E h (zm_s (zm_n h k x) a y) a n (n + 1) ∧ zm_g (zm_s (zm_n h k x) a y) a = y ∧ zm_g (zm_s (zm_n h k x) a y) n = x :=
  ⟨zE_s (zE_n (zE_rf hn) hk) (Or.inl rfl), zg_ss, by rw [zg_sn (by omega), zn_gs hn]⟩
theorem qk9 (ha : a < 1000000) : zm_call 9 [.ref a] h = some (none, h) := by rw [zc9, zm_nx, zb9_0, zq_o_o ha]
theorem qk18_l (hl : a < 1000) : ∀ (k i : Nat) (h : zm_H), i + k = 5 → zm_g h a = .inr (2, [.ref (a + 1), .int 0]) → zx_E h0 h a (a + 1) (a + 2 + i) → (∃ g, zm_g h (a + 1) = .inl (3, 5, .inr (.inr (.inr (.inr g)))) ∧ ∀ j, j < i → g j = some (a + 2 + j)) → (∀ j, j < i → zm_g h (a + 2 + j) = zf_c (0, 0, 0)) → ∃ h', zm_den 2 18 14 [.ref a, .int (nI i)] [] h = some (none, h') ∧ zr_W h' a (fun i => a + 2 + i) 0 (fun _ => (0, 0, 0)) ∧ zx_E h0 h' a (a + 1) (a + 7) := by
  intro k
  induction k with
  | zero =>
    intro i h hi hc hE hg hf
    have : i = 5 := by omega
    subst this
    refine ⟨h, ?_, ⟨by decide, hc, hg, hf, fun i hi => ⟨by show a + 2 ≤ a + 2 + i; omega, by show a + 2 + i < a + 7; omega⟩, fun i j _ _ e => by have e' : a + 2 + i = a + 2 + j := e; omega⟩, hE⟩
    rw [zb18_14, if_pos (by decide), zm_nx, zb18_38]
  | succ k ih =>
    intro i h hi hc hE hg hf
    obtain ⟨g, g1, g2⟩ := hg
    have zgr : ∀ f : Nat → zm_O, zq_gr (.inr (2, [.ref (a + 1), .int 0])) 2 0 f = f (a + 1) := fun f => rfl
    have n1 := hE.2.1
    have E1 : zx_E h0 (zm_s (zm_n h (zm_df 0).length (.inr (0, zm_df 0))) (a + 1) (.inl (3, 5, .inr (.inr (.inr (.inr (va_up g i (some (a + 2 + i))))))))) a (a + 1) (a + 2 + (i + 1)) := zE_s (zE_n hE (by decide)) (Or.inr ⟨by omega, by omega⟩)
    obtain ⟨h', e1, e2⟩ := ih (i + 1) _ (by omega) (by rw [zg_sn (by omega), zn_gn n1 (by omega)]; exact hc) E1 ⟨_, zg_ss, fun j hj => by
      by_cases z : j = i
      · subst z; exact zx_vs
      · rw [zx_vn z]; exact g2 j (by omega)⟩ (fun j hj => by
      by_cases z : j = i
      · subst z
        rw [zg_sn (by omega), zn_gs n1]; rfl
      · rw [zg_sn (by omega), zn_gn n1 (by omega)]; exact hf j (by omega))
    refine ⟨h', ?_, e2⟩
    rw [zb18_14, if_neg (show ¬ (5 : Int32) ≤ nI i from nI_ge (b := 5) (by omega) (by decide)), zm_nx, zb18_19, hc, zgr, zq_nw_o n1 (by omega), zq_o_o (by omega), qk9 (by omega), zq_bv_o, zn_gn n1 (by omega), g1, zn_gs n1, zq_qs_o (show i < 5 by omega) (by decide), zm_nx, nI_1]
    exact e1
theorem qk18 (hl : a < 1000) (hn : h.1 = a + 1) (hc : zm_g h a = .inr (2, zm_df 2)) : ∃ h', zm_call 18 [.ref a] h = some (none, h') ∧ zr_W h' a (fun i => a + 2 + i) 0 (fun _ => (0, 0, 0)) ∧ zx_E h h' a (a + 1) (a + 7) := by
  obtain ⟨E1, c1, c2⟩ := zx_np (k := 5) (x := .inl (3, 5, .inr (.inr (.inr (.inr (fun _ => none)))))) (y := .inr (2, (zm_df 2).set 0 (.ref (a + 1)))) hn (by decide) (show a < a + 1 by omega)
  obtain ⟨h', e1, e2⟩ := qk18_l (h0 := h) hl 5 0 _ (by omega) c1 E1 ⟨_, c2, fun j hj => absurd hj (Nat.not_lt_zero _)⟩ (fun j hj => absurd hj (Nat.not_lt_zero _))
  refine ⟨h', ?_, e2⟩
  rw [zc18, zm_nx, zb18_0, zq_o_o (by omega), zq_nw_o hn (by omega), zn_gn hn (by omega), hc, zq_pr_o (by decide), zm_nx]
  exact e1
theorem qk28 (hl : a < 900) (hn : h.1 = a + 1) (hc : zm_g h a = .inr (1, zm_df 1)) : ∃ h', zm_call 28 [.ref a] h = some (none, h') ∧ zp_V h' a zp_new ∧ zx_E h h' a (a + 1) (a + 10) := by
  have E1 : zx_E h (zm_n h (zm_df 2).length (.inr (2, zm_df 2))) a (a + 1) (a + 2) := zE_n (zE_rf hn) (by decide)
  obtain ⟨h2, e2, R2, E2⟩ := qk18 (a := a + 1) (by omega) E1.2.1 (zn_gs hn)
  have c2 : zm_g h2 a = .inr (1, zm_df 1) := by rw [E2.2.2.2.2 a (by omega) (by omega), zn_gn hn (by omega)]; exact hc
  have E2' := zE_t E1 E2 (Or.inr ⟨by omega, by omega⟩)
  obtain ⟨h3, eh3⟩ : ∃ h3, h3 = zm_s h2 a (.inr (1, (zm_df 1).set 0 (.ref (a + 1)))) := ⟨_, rfl⟩
  have E3 : zx_E h h3 a (a + 1) (a + 8) := by rw [eh3]; exact zE_s E2' (Or.inl rfl)
  have c3 : zm_g h3 a = .inr (1, (zm_df 1).set 0 (.ref (a + 1))) := by rw [eh3, zg_ss]
  have R3 : zr_W h3 (a + 1) (fun i => a + 1 + 2 + i) 0 (fun _ => (0, 0, 0)) := zr_keep R2 fun b b1 b2 => by rw [eh3, zg_sn (by omega)]
  obtain ⟨F4, c4, d4⟩ := zx_np (k := 7) (x := .inl (0, 7, .inl (fun _ => 0))) (y := .inr (1, ((zm_df 1).set 0 (.ref (a + 1))).set 1 (.ref (a + 8)))) E3.2.1 (by decide) (show a < a + 8 by omega)
  obtain ⟨h4, eh4⟩ : ∃ h4, h4 = zm_s (zm_n h3 7 (.inl (0, 7, .inl (fun _ => 0)))) a (.inr (1, ((zm_df 1).set 0 (.ref (a + 1))).set 1 (.ref (a + 8)))) := ⟨_, rfl⟩
  rw [← eh4] at F4 c4 d4
  obtain ⟨F5, c5, d5⟩ := zx_np (k := 7) (x := .inl (0, 7, .inl (fun _ => 0))) (y := .inr (1, (((zm_df 1).set 0 (.ref (a + 1))).set 1 (.ref (a + 8))).set 2 (.ref (a + 9)))) F4.2.1 (by decide) (show a < a + 9 by omega)
  obtain ⟨h5, eh5⟩ : ∃ h5, h5 = zm_s (zm_n h4 7 (.inl (0, 7, .inl (fun _ => 0)))) a (.inr (1, (((zm_df 1).set 0 (.ref (a + 1))).set 1 (.ref (a + 8))).set 2 (.ref (a + 9)))) := ⟨_, rfl⟩
  rw [← eh5] at F5 c5 d5
  have c5' : zm_g h5 a = .inr (1, [.ref (a + 1), .ref (a + 8), .ref (a + 9), .int (nI 0)]) := c5
  have d45 : zm_g h5 (a + 8) = .inl (0, 7, .inl (fun _ => 0)) := by rw [F5.2.2.2.2 (a + 8) (by omega) (by omega)]; exact d4
  have R5 : zr_W h5 (a + 1) (fun i => a + 1 + 2 + i) 0 (fun _ => (0, 0, 0)) := zr_keep R3 fun b b1 b2 => by rw [F5.2.2.2.2 b (by omega) (by omega), F4.2.2.2.2 b (by omega) (by omega)]
  obtain ⟨h6, e6, W6, G6⟩ := qc_fill (x := 1) (a := a + 8) (m := 7) (w := fun _ => 0) (by decide) (show za_W h5 (a + 8) 7 (fun _ => 0) from ⟨_, d45, fun _ _ => rfl⟩)
  have d6 : zm_g h6 (a + 9) = .inl (0, 7, .inl (fun _ => 0)) := by rw [G6.2.2 (a + 9) (by omega)]; exact d5
  obtain ⟨h7, e7, W7, G7⟩ := qc_fill (x := 4) (a := a + 9) (m := 7) (w := fun _ => 0) (by decide) (show za_W h6 (a + 9) 7 (fun _ => 0) from ⟨_, d6, fun _ _ => rfl⟩)
  have c6 : zm_g h6 a = .inr (1, [.ref (a + 1), .ref (a + 8), .ref (a + 9), .int (nI 0)]) := by rw [G6.2.2 a (by omega)]; exact c5'
  have c7 : zm_g h7 a = .inr (1, [.ref (a + 1), .ref (a + 8), .ref (a + 9), .int (nI 0)]) := by rw [G7.2.2 a (by omega)]; exact c6
  have R7 : zr_W h7 (a + 1) (fun i => a + 1 + 2 + i) 0 (fun _ => (0, 0, 0)) := zr_keep R5 fun b b1 b2 => by rw [G7.2.2 b (by omega), G6.2.2 b (by omega)]
  have W67 : za_W h7 (a + 8) 7 (fun _ => 1) := by
    obtain ⟨g, w1, w2⟩ := W6
    exact ⟨g, by rw [G7.2.2 (a + 8) (by omega)]; exact w1, w2⟩
  have E5 := zE_t (zE_t E3 F4 (Or.inl rfl)) F5 (Or.inl rfl)
  have E7 := zE_fr (zE_fr E5 G6 (Or.inr ⟨by omega, by omega⟩)) G7 (Or.inr ⟨by omega, by omega⟩)
  have g1 : ∀ f : Nat → zm_O, zq_gr (.inr (1, [.ref (a + 1), .ref (a + 8), .ref (a + 9), .int (nI 0)])) 1 1 f = f (a + 8) := fun f => rfl
  have g2 : ∀ f : Nat → zm_O, zq_gr (.inr (1, [.ref (a + 1), .ref (a + 8), .ref (a + 9), .int (nI 0)])) 1 2 f = f (a + 9) := fun f => rfl
  refine ⟨h7, ?_, ⟨_, zp_new, ⟨by decide, c7, R7, W67, W7⟩, rfl, fun _ _ => rfl, fun _ _ => ⟨rfl, rfl⟩, rfl⟩, E7⟩
  rw [zc28, zm_nx, zb28_0, zq_o_o (by omega), zq_nw_o hn (by omega), zq_o_o (by omega), e2, zq_bv_o, c2, zq_pr_o (by decide : 0 < 4), ← eh3, zm_nx, zb28_15, zq_nw_o E3.2.1 (by omega), zn_gn E3.2.1 (by omega), c3, zq_pr_o (by decide : 1 < 4), ← eh4, zm_nx, zb28_23, zq_nw_o F4.2.1 (by omega), zn_gn F4.2.1 (by omega), c4, zq_pr_o (by decide : 2 < 4), ← eh5, zm_nx, zb28_31, c5', g1, e6, zq_bv_o, zm_nx, zb28_39, c6, g2, e7, zq_bv_o]
theorem qk39 (hl : a < 1000) (hn : h.1 = a + 1) (hc : zm_g h a = .inr (4, zm_df 4)) : ∃ h', zm_call 39 [.ref a] h = some (none, h') ∧ zm_g h' a = .inr (4, [.ref (a + 1), .int 0, .int 0, .int 0, .int 0, .int 0]) ∧ zm_g h' (a + 1) = .inl (1, 160, .inl (fun _ => 0)) ∧ zx_E h h' a (a + 1) (a + 2) := by
  obtain ⟨F4, c4, d4⟩ := zx_np (k := 160) (x := .inl (1, 160, .inl (fun _ => 0))) (y := .inr (4, (zm_df 4).set 0 (.ref (a + 1)))) hn (by decide) (show a < a + 1 by omega)
  refine ⟨_, ?_, c4, d4, F4⟩
  rw [zc39, zm_nx, zb39_0, zq_o_o (by omega), zq_nw_o hn (by omega), zn_gn hn (by omega), hc, zq_pr_o (by decide : 0 < 6)]
theorem qk56 (hl : a < 1000) (hn : h.1 = a + 1) (hc : zm_g h a = .inr (3, zm_df 3)) : ∃ h', zm_call 56 [.ref a] h = some (none, h') ∧ zm_g h' a = .inr (3, [.ref (a + 1), .int (-1), .int 0]) ∧ zm_g h' (a + 1) = .inl (0, 40, .inl (fun _ => 0)) ∧ zx_E h h' a (a + 1) (a + 2) := by
  obtain ⟨F4, c4, d4⟩ := zx_np (k := 40) (x := .inl (0, 40, .inl (fun _ => 0))) (y := .inr (3, [.ref (a + 1), .int (-1), .int 0])) hn (by decide) (show a < a + 1 by omega)
  refine ⟨_, ?_, c4, d4, F4⟩
  have p1 : ∀ f : va_E → zm_O, zq_pi (.inr (3, (zm_df 3).set 0 (.ref (a + 1)))) 3 1 (-1) f = f (.inr (3, [.ref (a + 1), .int (-1), .int 0])) := fun f => rfl
  rw [zc56, zm_nx, zb56_0, zq_o_o (by omega), zq_nw_o hn (by omega), zn_gn hn (by omega), hc, zq_pr_o (by decide : 0 < 3), zg_ss, p1, zs_ss]
theorem qk46 (hl : a < 800) (hn : h.1 = a + 1) (hc : zm_g h a = .inr (5, zm_df 5)) : ∃ h', zm_call 46 [.ref a] h = some (none, h') ∧ zm_g h' a = .inr (5, [.ref (a + 1), .ref (a + 3), .int 0, .int 0, .int 0, .int 0]) ∧ zm_g h' (a + 1) = .inr (4, [.ref (a + 2), .int 0, .int 0, .int 0, .int 0, .int 0]) ∧ zm_g h' (a + 2) = .inl (1, 160, .inl (fun _ => 0)) ∧ zp_V h' (a + 3) zp_new ∧ zx_E h h' a (a + 1) (a + 13) := by
  have E1 : zx_E h (zm_n h (zm_df 4).length (.inr (4, zm_df 4))) a (a + 1) (a + 2) := zE_n (zE_rf hn) (by decide)
  obtain ⟨h2, e2, t2, b2, F2⟩ := qk39 (a := a + 1) (by omega) E1.2.1 (zn_gs hn)
  have c2 : zm_g h2 a = .inr (5, zm_df 5) := by rw [F2.2.2.2.2 a (by omega) (by omega), zn_gn hn (by omega)]; exact hc
  have E2 := zE_t E1 F2 (Or.inr ⟨by omega, by omega⟩)
  obtain ⟨h3, eh3⟩ : ∃ h3, h3 = zm_s h2 a (.inr (5, (zm_df 5).set 0 (.ref (a + 1)))) := ⟨_, rfl⟩
  have E3 : zx_E h h3 a (a + 1) (a + 3) := by rw [eh3]; exact zE_s E2 (Or.inl rfl)
  have c3 : zm_g h3 a = .inr (5, (zm_df 5).set 0 (.ref (a + 1))) := by rw [eh3, zg_ss]
  have E4 : zx_E h (zm_n h3 (zm_df 1).length (.inr (1, zm_df 1))) a (a + 1) (a + 4) := zE_n E3 (by decide)
  obtain ⟨h5, e5, V5, F5⟩ := qk28 (a := a + 3) (by omega) E4.2.1 (zn_gs E3.2.1)
  have k5 : ∀ b, b < a + 3 → zm_g h5 b = zm_g h3 b := fun b hb => by rw [F5.2.2.2.2 b (by omega) (by omega), zn_gn E3.2.1 (by omega)]
  have c5 : zm_g h5 a = .inr (5, (zm_df 5).set 0 (.ref (a + 1))) := by rw [k5 a (by omega)]; exact c3
  refine ⟨zm_s h5 a (.inr (5, [.ref (a + 1), .ref (a + 3), .int 0, .int 0, .int 0, .int 0])), ?_, zg_ss, ?_, ?_, zV_keep V5 fun b b1 b2 => zg_sn (by omega), zE_s (zE_t E4 F5 (Or.inr ⟨by omega, by omega⟩)) (Or.inl rfl)⟩
  · rw [zc46, zm_nx, zb46_0, zq_o_o (by omega), zq_nw_o hn (by omega), zq_o_o (by omega), e2, zq_bv_o, c2, zq_pr_o (by decide : 0 < 6), ← eh3, zm_nx, zb46_15, zq_nw_o E3.2.1 (by omega), zq_o_o (by omega), e5, zq_bv_o, c5, zq_pr_o (by decide : 1 < 6), zm_nx, zb46_26]
    rfl
  · rw [zg_sn (by omega), k5 (a + 1) (by omega), eh3, zg_sn (by omega)]; exact t2
  · rw [zg_sn (by omega), k5 (a + 2) (by omega), eh3, zg_sn (by omega)]; exact b2
end ZT92
