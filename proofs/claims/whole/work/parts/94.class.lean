section ZT94
variable {h h0 : zm_H} {fs : List Value} {v1 : Value} {x1 : Int32}
theorem qk61_1 {n : Nat} {pc : Nat} {k : Nat} {pc' : Nat} (h0n : 0 < n) (hl : n < 800) (hk : k < fs.length) (hn : h.1 = n) (hc : zm_g h 0 = .inr (6, fs)) (hb : ∀ h, zm_den 5 61 pc [.ref 0, v1] [] h = zq_nw h (zm_df 1).length (.inr (1, zm_df 1)) (fun a21 h22 => zq_o a21 (zq_bv (zm_call 28 [.ref a21] h22) (fun h23 => zq_pr (zm_g h23 0) 6 k a21 (fun c24 => zm_nx 5 61 pc' [.ref 0, v1] [] (zm_s h23 0 c24)))))) : ∃ h', zm_den 5 61 pc [.ref 0, v1] [] h = zm_den 5 61 pc' [.ref 0, v1] [] h' ∧ zm_g h' 0 = .inr (6, fs.set k (.ref n)) ∧ zx_E h h' 0 n (n + 10) ∧ zp_V h' n zp_new := by
  have E1 : zx_E h (zm_n h (zm_df 1).length (.inr (1, zm_df 1))) 0 n (n + 1) := zE_n (zE_rf hn) (by decide)
  obtain ⟨h2, e2, R2, F2⟩ := qk28 (a := n) (by omega) E1.2.1 (zn_gs hn)
  have c2 : zm_g h2 0 = .inr (6, fs) := by rw [F2.2.2.2.2 0 (by omega) (by omega), zn_gn hn (by omega)]; exact hc
  refine ⟨zm_s h2 0 (.inr (6, fs.set k (.ref n))), ?_, zg_ss, zE_s (zE_t E1 F2 (Or.inr ⟨by omega, by omega⟩)) (Or.inl rfl), zV_keep R2 fun b b1 b2 => zg_sn (by omega)⟩
  rw [hb, zq_nw_o hn (by omega), zq_o_o (by omega), e2, zq_bv_o, c2, zq_pr_o hk, zm_nx]
theorem qk61_a {n : Nat} {pc : Nat} {k N : Nat} {x : va_E} {pc' : Nat} (h0n : 0 < n) (hl : n < 800) (hN : N ≤ 1000) (hk : k < fs.length) (hn : h.1 = n) (hc : zm_g h 0 = .inr (6, fs)) (hb : ∀ h, zm_den 5 61 pc [.ref 0, v1] [] h = zq_nw h N x (fun a21 h22 => zq_pr (zm_g h22 0) 6 k a21 (fun c23 => zm_nx 5 61 pc' [.ref 0, v1] [] (zm_s h22 0 c23)))) : ∃ h', zm_den 5 61 pc [.ref 0, v1] [] h = zm_den 5 61 pc' [.ref 0, v1] [] h' ∧ zm_g h' 0 = .inr (6, fs.set k (.ref n)) ∧ zx_E h h' 0 n (n + 1) ∧ zm_g h' n = x := by
  obtain ⟨E1, c1, d1⟩ := qk61_n x N hN h0n hn hc (.inr (6, fs.set k (.ref n)))
  refine ⟨_, ?_, c1, E1, d1⟩
  rw [hb, zq_nw_o hn (by omega), zn_gn hn (by omega), hc, zq_pr_o hk, zm_nx]
/-- the class's start -/
def zk_Y0 : zy_T := (zp_new, (0, fun _ => 0), (0, 0), (0, (fun _ => 0), fun _ => 0), ((fun _ => 0), fun _ => zp_new), fun _ => (-1, 0, fun _ => 0))
theorem qk61 (hn : h.1 = 1) (hc : zm_g h 0 = .inr (6, zm_df 6)) : ∃ h', zm_call 61 [.ref 0] h = some (none, h') ∧ zk_K h' zk_Y0 ∧ zx_E h h' 0 1 137 := by
  obtain ⟨h1, e1, c1, E1, V1⟩ := qk61_1 (v1 := .null) (pc := 0) (pc' := 15) (k := 0) (by omega) (by omega) (by decide) hn hc (fun h => (zb61_0 0 .null h).trans (zq_o_o (by decide)))
  obtain ⟨h2, e2, c2, E2, V2⟩ := qk61_1 (v1 := .null) (pc := 15) (pc' := 26) (k := 1) (by omega) (by omega) (by decide) E1.2.1 c1 (fun h => zb61_15 0 .null h)
  have n2 : h2.1 = 21 := E2.2.1
  obtain ⟨E3, c3, d3⟩ := qk61_n (.inr (0, zm_df 0)) (zm_df 0).length (by decide) (show 0 < 21 by decide) n2 c2 (.inr (6, ((((zm_df 6).set 0 (.ref 1)).set 1 (.ref 11)).set 2 (.ref 21))))
  obtain ⟨h3, eh3⟩ : ∃ h3, h3 = zm_s (zm_n h2 (zm_df 0).length (.inr (0, zm_df 0))) 0 (.inr (6, ((((zm_df 6).set 0 (.ref 1)).set 1 (.ref 11)).set 2 (.ref 21)))) := ⟨_, rfl⟩
  rw [← eh3] at E3 c3 d3
  have e3 : zm_den 5 61 26 [.ref 0, .null] [] h2 = zm_den 5 61 37 [.ref 0, .null] [] h3 := by
    rw [zb61_26, zq_nw_o n2 (by omega), zq_o_o (by omega), qk9 (by omega), zq_bv_o, zn_gn n2 (by omega), c2, zq_pr_o (by decide), ← eh3, zm_nx]
  obtain ⟨h4, e4, c4, E4, A4, R4⟩ := qk61_r (v1 := .null) (by rfl) E3.2.1 c3
  obtain ⟨h5, e5, c5, E5, A5, R5⟩ := qk61_d (x1 := nI 9) (by rfl) E4.2.1 c4
  have n5 : h5.1 = 91 := E5.2.1
  have E6a : zx_E h5 (zm_n h5 (zm_df 5).length (.inr (5, zm_df 5))) 0 91 92 := zE_n (zE_rf n5) (by decide)
  obtain ⟨h6a, e6a, r6, t6, b6, V6, F6a⟩ := qk46 (a := 91) (by omega) E6a.2.1 (zn_gs n5)
  have c6a : zm_g h6a 0 = .inr (6, ((((((zm_df 6).set 0 (.ref 1)).set 1 (.ref 11)).set 2 (.ref 21)).set 3 (.ref 22)).set 4 (.ref 86))) := by rw [F6a.2.2.2.2 0 (by omega) (by omega), zn_gn n5 (by omega)]; exact c5
  obtain ⟨h6, eh6⟩ : ∃ h6, h6 = zm_s h6a 0 (.inr (6, (((((((zm_df 6).set 0 (.ref 1)).set 1 (.ref 11)).set 2 (.ref 21)).set 3 (.ref 22)).set 4 (.ref 86)).set 5 (.ref 91)))) := ⟨_, rfl⟩
  have E6 : zx_E h5 h6 0 91 104 := by rw [eh6]; exact zE_s (zE_t E6a F6a (Or.inr ⟨by omega, by omega⟩)) (Or.inl rfl)
  have c6 : zm_g h6 0 = .inr (6, (((((((zm_df 6).set 0 (.ref 1)).set 1 (.ref 11)).set 2 (.ref 21)).set 3 (.ref 22)).set 4 (.ref 86)).set 5 (.ref 91))) := by rw [eh6, zg_ss]
  have e6 : zm_den 5 61 87 [.ref 0, .int (nI 9)] [] h5 = zm_den 5 61 98 [.ref 0, .int (nI 9)] [] h6 := by
    rw [zb61_87, zq_nw_o n5 (by omega), zq_o_o (by omega), e6a, zq_bv_o, c6a, zq_pr_o (by decide), ← eh6, zm_nx]
  obtain ⟨h8, e8, c8, E8, d8⟩ := qk61_a (v1 := .int (nI 9)) (pc := 98) (pc' := 106) (k := 7) (N := 6) (by omega) (by omega) (by decide) (by decide) E6.2.1 c6 (fun h => zb61_98 0 (nI 9) h)
  obtain ⟨h9, e9, c9, E9, d9⟩ := qk61_a (v1 := .int (nI 9)) (pc := 106) (pc' := 114) (k := 8) (N := 6) (by omega) (by omega) (by decide) (by decide) E8.2.1 c8 (fun h => zb61_106 0 (nI 9) h)
  obtain ⟨h10, e10, c10, E10, A10, R10⟩ := qk61_p (x1 := nI 9) (by rfl) E9.2.1 c9
  obtain ⟨h11, e11, c11, E11, d11⟩ := qk61_a (v1 := .int (nI 2)) (pc := 148) (pc' := 155) (k := 11) (N := 2) (by omega) (by omega) (by decide) (by decide) E10.2.1 c10 (fun h => zb61_148 0 (nI 2) h)
  obtain ⟨h12, e12, c12, E12, A12, R12⟩ := qk61_s (x1 := nI 2) (by rfl) E11.2.1 c11
  have F11 : zx_E h11 h12 0 128 137 := E12
  have F10 : zx_E h10 h12 0 127 137 := zE_t E11 F11 (Or.inl rfl)
  have F9 : zx_E h9 h12 0 106 137 := zE_t E10 F10 (Or.inl rfl)
  have F8 : zx_E h8 h12 0 105 137 := zE_t E9 F9 (Or.inl rfl)
  have F6 : zx_E h6 h12 0 104 137 := zE_t E8 F8 (Or.inl rfl)
  have F5 : zx_E h5 h12 0 91 137 := zE_t E6 F6 (Or.inl rfl)
  have F4 : zx_E h4 h12 0 86 137 := zE_t E5 F5 (Or.inl rfl)
  have F3 : zx_E h3 h12 0 22 137 := zE_t E4 F4 (Or.inl rfl)
  have F2 : zx_E h2 h12 0 21 137 := zE_t E3 F3 (Or.inl rfl)
  have F1 : zx_E h1 h12 0 11 137 := zE_t E2 F2 (Or.inl rfl)
  have F0 : zx_E h h12 0 1 137 := zE_t E1 F1 (Or.inl rfl)
  refine ⟨h12, ?_, ?_, F0⟩
  · rw [zc61, zm_nx, e1, e2, e3, e4, e5, e6, e8, e9, e10, e11, e12, zb61_189]
  · refine ⟨c12, ⟨zV_keep V1 fun b b1 b2 => F1.2.2.2.2 b (by omega) (by omega), zp_ok_new, by decide⟩, ⟨⟨zp_new, zV_keep V2 fun b b1 b2 => F2.2.2.2.2 b (by omega) (by omega)⟩, ⟨(0, 0, 0), (F3.2.2.2.2 21 (by omega) (by omega)).trans d3⟩, ?_, fun j hj => ?_, ?_, fun j hj => ?_⟩, ⟨Nat.zero_le _, fun j hj => absurd hj (Nat.not_lt_zero _), ⟨0, 0, 0, 0, ?_⟩, ⟨fun _ => 0, ?_, fun j hj => absurd hj (Nat.not_lt_zero _)⟩, ⟨0, 0, 0, 0, ?_⟩, ⟨zp_new, ?_⟩⟩, ⟨Nat.zero_le _, ⟨fun _ => 0, (F8.2.2.2.2 104 (by omega) (by omega)).trans d8, fun j hj => absurd hj (Nat.not_lt_zero _)⟩, ⟨fun _ => 0, (F9.2.2.2.2 105 (by omega) (by omega)).trans d9, fun j hj => absurd hj (Nat.not_lt_zero _)⟩, fun j hj => absurd hj (Nat.not_lt_zero _)⟩, ⟨?_, ⟨fun _ => 0, (F11.2.2.2.2 127 (by omega) (by omega)).trans d11, fun _ _ => rfl⟩, fun _ _ => Or.inl rfl, fun j hj => ?_, fun j hj w => absurd (show (0 : Int32) = 1 from w) (by decide)⟩, ⟨A12, fun j hj => ?_, fun j hj => ⟨fun _ => 0, ?_, fun _ _ => rfl⟩, fun j hj => ⟨Or.inl rfl, Nat.zero_le _⟩⟩⟩
    · obtain ⟨g, g1, g2⟩ := A4
      exact ⟨g, (F4.2.2.2.2 22 (by omega) (by omega)).trans g1, g2⟩
    · obtain ⟨ad, n, v, W⟩ := R4 j hj
      exact ⟨ad, n, v, zr_keep W fun b b1 b2 => F4.2.2.2.2 b (by omega) (by omega)⟩
    · obtain ⟨g, g1, g2⟩ := A5
      exact ⟨g, (F5.2.2.2.2 86 (by omega) (by omega)).trans g1, g2⟩
    · obtain ⟨w, w1⟩ := R5 j hj
      exact ⟨w, (F5.2.2.2.2 _ (by omega) (by omega)).trans w1⟩
    · rw [F6.2.2.2.2 92 (by omega) (by omega), eh6, zg_sn (by omega)]; exact t6
    · rw [F6.2.2.2.2 93 (by omega) (by omega), eh6, zg_sn (by omega)]; exact b6
    · rw [F6.2.2.2.2 91 (by omega) (by omega), eh6, zg_sn (by omega)]; exact r6
    · exact zV_keep V6 fun b b1 b2 => by rw [F6.2.2.2.2 b (by omega) (by omega), eh6, zg_sn (by omega)]
    · obtain ⟨g, g1, g2⟩ := A10
      exact ⟨g, (F10.2.2.2.2 106 (by omega) (by omega)).trans g1, g2⟩
    · exact zV_keep (R10 j hj) fun b b1 b2 => F10.2.2.2.2 b (by omega) (by omega)
    · rw [show 130 + 2 * j = 129 + 2 * j + 1 by omega]
      exact (R12 j hj).1
    · rw [show 130 + 2 * j = 129 + 2 * j + 1 by omega]
      exact (R12 j hj).2
end ZT94
