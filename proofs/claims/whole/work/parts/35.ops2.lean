section ZOPS2
variable {h : zm_H} {Y : zy_T}
theorem zV_arr {p : Nat} {P : zp_T} (hV : zp_V h p P) : za_W h (p + 8) 7 P.2.2.1 ∧ za_W h (p + 9) 7 P.2.2.2.1 := by
  obtain ⟨ad, Q, h1, h2⟩ := hV
  obtain ⟨-, -, -, ⟨g1, a1, b1⟩, ⟨g2, a2, b2⟩⟩ := h1
  exact ⟨⟨g1, a1, fun j hj => (b1 j hj).trans (h2.2.2.1 j hj).1⟩, ⟨g2, a2, fun j hj => (b2 j hj).trans (h2.2.2.1 j hj).2⟩⟩
theorem zV_fig {p i : Nat} {P : zp_T} (hV : zp_V h p P) (hi : i < P.1) : ∃ g a, zm_g h (p + 2) = .inl (3, 5, .inr (.inr (.inr (.inr g)))) ∧ g i = some a ∧ zm_g h a = zf_c (P.2.1 i) ∧ p + 3 ≤ a ∧ a < p + 8 := by
  obtain ⟨ad, Q, h1, h2⟩ := hV
  obtain ⟨-, -, ⟨c1, c2, ⟨g, c3, c4⟩, c5, c6, c7⟩, -⟩ := h1
  have hn : P.1 ≤ 5 := by rw [← h2.1]; exact c1
  refine ⟨g, ad i, c3, c4 i (by omega), ?_, ?_⟩
  · rw [c5 i (by omega), h2.2.1 i (by rw [h2.1]; exact hi)]
  · have := c6 i (by omega)
    omega
theorem zt_week (x y : Int32) (hK : zk_K h Y) (hO : zo_K h Y) : zt_R 68 149 [.int x, .int y] h := by
  have k0 := hK.1
  obtain ⟨kV, kO, kd⟩ := hK.2.1
  obtain ⟨ad, Q, -, -, v1, v2, v3, v4⟩ := zV_row kV
  obtain ⟨⟨g1, b1, b2⟩, ⟨g2, b3, b4⟩⟩ := zV_arr kV
  obtain ⟨A, g, a1, a2, a3, -⟩ := id hO
  have m1 := qm_in (h := h) x 0 6 (0 : Int64) (6 : Int64) (by decide) (by decide)
  have m2 := qm_in (h := h) y 0 1 (0 : Int64) (1 : Int64) (by decide) (by decide)
  have c1 := qc_within (h := h) x 6
  have c2 := qc_within (h := h) y 1
  have hc : (7 : Nat) < 2 ^ 31 := by decide
  have h10 : ¬ (1 : Int32) = 0 := by decide
  rcases zw_in_c x (u := 6) (by decide) with e | ⟨d, hd, ex, e⟩
  · have e' : zw_in x 0 6 = 0 := e
    refine zt_ro (r := -1) hK hO ?_ ?_
    · rw [zc68, zm_nx, zb68_0, c1, zq_bi_o, e', if_pos rfl, zm_nx, zb68_17]
    · rw [zc149, zm_nx, zb149_0, m1, zq_bi_o, e', if_pos rfl, zm_nx, zb149_22]
  · have e' : zw_in x 0 6 = 1 := e
    rcases zw_in_c y (u := 1) (by decide) with f | ⟨w, hw, ey, f⟩
    · have f' : zw_in y 0 1 = 0 := f
      refine zt_ro (r := -1) hK hO ?_ ?_
      · rw [zc68, zm_nx, zb68_0]
        simp only [c1, zq_bi_o, e', h10, if_false, zm_nx, zb68_9, c2, f', not_true_eq_false, zb68_17]
      · rw [zc149, zm_nx, zb149_0]
        simp only [m1, zq_bi_o, e', h10, if_false, zm_nx, zb149_12, m2, f', not_true_eq_false, zb149_22]
    · have f' : zw_in y 0 1 = 1 := f
      subst ex
      by_cases y0 : y = 0
      · subst y0
        refine zt_ro (r := Y.1.2.2.1 d) hK hO ?_ ?_
        · rw [zc68, zm_nx, zb68_0]
          simp only [c1, zq_bi_o, e', h10, if_false, zm_nx, zb68_9, c2, f', not_false_eq_true, if_true, zb68_19, not_true_eq_false, zb68_23, k0, zkr0, v1, zgr_1_1, b1, zq_al_o (show d < 7 by omega) hc, b2 d (by omega), zb68_44]
        · rw [zc149, zm_nx, zb149_0]
          have q : ∀ f : Int32 → zm_O, zq_al (.inl (0, 186, .inl g)) 0 ((16 : Int32) + nI d) f = f (Y.1.2.2.1 d - 1) := fun f => zy_al (j := 0 + 16 + d) (by rw [Nat.zero_add]; exact nI_add 16 d) (by omega) (by decide) (a2.2.2.1 d (by omega)).1
          simp only [m1, zq_bi_o, e', h10, if_false, zm_nx, zb149_12, m2, f', not_false_eq_true, if_true, zb149_24, not_true_eq_false, zb149_28, a1.1, zor0, a1.2, q, zb149_53, Int32.sub_add_cancel]
      · refine zt_ro (r := Y.1.2.2.2.1 d) hK hO ?_ ?_
        · rw [zc68, zm_nx, zb68_0]
          simp only [c1, zq_bi_o, e', h10, if_false, zm_nx, zb68_9, c2, f', not_false_eq_true, if_true, zb68_19, y0, zb68_35, k0, zkr0, v1, zgr_1_2, b3, zq_al_o (show d < 7 by omega) hc, b4 d (by omega), zb68_44]
        · rw [zc149, zm_nx, zb149_0]
          have q : ∀ f : Int32 → zm_O, zq_al (.inl (0, 186, .inl g)) 0 ((23 : Int32) + nI d) f = f (Y.1.2.2.2.1 d - 4) := fun f => zy_al (j := 0 + 23 + d) (by rw [Nat.zero_add]; exact nI_add 23 d) (by omega) (by decide) (a2.2.2.1 d (by omega)).2
          simp only [m1, zq_bi_o, e', h10, if_false, zm_nx, zb149_12, m2, f', not_false_eq_true, if_true, zb149_24, y0, zb149_42, a1.1, zor0, a1.2, q, zb149_53, Int32.sub_add_cancel]
end ZOPS2
