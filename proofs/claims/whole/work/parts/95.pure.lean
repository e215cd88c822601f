section ZT95
variable {h h0 : zm_H} {fs : List Value}
theorem qk122_a {n pc k N pc' : Nat} {x : va_E} (h0n : 137 < n) (hl : n < 800) (hN : N ≤ 1000) (hk : k < fs.length) (hn : h.1 = n) (hc : zm_g h 137 = .inr (7, fs)) (hb : ∀ h, zm_den 1 122 pc [.ref 137] [] h = zq_nw h N x (fun a21 h22 => zq_pr (zm_g h22 137) 7 k a21 (fun c23 => zm_nx 1 122 pc' [.ref 137] [] (zm_s h22 137 c23)))) : ∃ h', zm_den 1 122 pc [.ref 137] [] h = zm_den 1 122 pc' [.ref 137] [] h' ∧ zm_g h' 137 = .inr (7, fs.set k (.ref n)) ∧ zx_E h h' 137 n (n + 1) ∧ zm_g h' n = x := by
  obtain ⟨E1, c1, d1⟩ := zx_np (k := N) (x := x) (y := .inr (7, fs.set k (.ref n))) hn hN h0n
  refine ⟨_, ?_, c1, E1, d1⟩
  rw [hb, zq_nw_o hn (by omega), zn_gn hn (by omega), hc, zq_pr_o hk, zm_nx]
theorem qk122_30 (hf : fs.length = 26) (hn : h.1 = 141) (hc : zm_g h 137 = .inr (7, fs)) : ∃ h', zm_den 1 122 30 [.ref 137] [] h = zm_den 1 122 67 [.ref 137] [] h' ∧ zm_g h' 137 = .inr (7, fs.set 12 (.ref 141)) ∧ zx_E h h' 137 141 142 ∧ zm_g h' 141 = .inl (0, 6, .inl (upd (upd (upd (upd (upd (upd (fun _ => 0) 0 (0 : Int32)) 1 (6 : Int32)) 2 (12 : Int32)) 3 (15 : Int32)) 4 (19 : Int32)) 5 (22 : Int32))) := by
  refine ⟨zm_s (zm_s (zm_n h 6 (.inl (0, 6, .inl (fun _ => 0)))) 141 (.inl (0, 6, .inl (upd (upd (upd (upd (upd (upd (fun _ => 0) 0 (0 : Int32)) 1 (6 : Int32)) 2 (12 : Int32)) 3 (15 : Int32)) 4 (19 : Int32)) 5 (22 : Int32))))) 137 (.inr (7, fs.set 12 (.ref 141))), ?_, zg_ss, zE_s (zE_s (zE_n (zE_rf hn) (by decide)) (Or.inr ⟨by omega, by omega⟩)) (Or.inl rfl), by rw [zg_sn (by omega), zg_ss]⟩
  rw [zb122_30, zq_nw_o hn (by omega), zn_gs hn, zq_as_l (t := 0) (m := 6) (i := (0 : Int32)) (j := 0) rfl (by decide) (by decide), zg_ss, zq_as_l (t := 0) (m := 6) (i := (1 : Int32)) (j := 1) rfl (by decide) (by decide), zs_ss, zg_ss, zq_as_l (t := 0) (m := 6) (i := (2 : Int32)) (j := 2) rfl (by decide) (by decide), zs_ss, zg_ss, zq_as_l (t := 0) (m := 6) (i := (3 : Int32)) (j := 3) rfl (by decide) (by decide), zs_ss, zg_ss, zq_as_l (t := 0) (m := 6) (i := (4 : Int32)) (j := 4) rfl (by decide) (by decide), zs_ss, zg_ss, zq_as_l (t := 0) (m := 6) (i := (5 : Int32)) (j := 5) rfl (by decide) (by decide), zs_ss, zg_sn (by omega), zn_gn hn (by omega), hc, zq_pr_o (by omega), zm_nx]
theorem qk122_67 (hf : fs.length = 26) (hn : h.1 = 142) (hc : zm_g h 137 = .inr (7, fs)) : ∃ h', zm_den 1 122 67 [.ref 137] [] h = zm_den 1 122 201 [.ref 137] [] h' ∧ zm_g h' 137 = .inr (7, fs.set 13 (.ref 142)) ∧ zx_E h h' 137 142 143 ∧ zm_g h' 142 = .inl (0, 22, .inl (upd (upd (upd (upd (upd (upd (upd (upd (upd (upd (upd (upd (upd (upd (upd (upd (upd (upd (upd (upd (upd (upd (fun _ => 0) 0 (112 : Int32)) 1 (111 : Int32)) 2 (119 : Int32)) 3 (100 : Int32)) 4 (101 : Int32)) 5 (114 : Int32)) 6 (112 : Int32)) 7 (97 : Int32)) 8 (99 : Int32)) 9 (107 : Int32)) 10 (101 : Int32)) 11 (100 : Int32)) 12 (119 : Int32)) 13 (101 : Int32)) 14 (116 : Int32)) 15 (105 : Int32)) 16 (99 : Int32)) 17 (101 : Int32)) 18 (100 : Int32)) 19 (100 : Int32)) 20 (97 : Int32)) 21 (121 : Int32))) := by
  refine ⟨zm_s (zm_s (zm_n h 22 (.inl (0, 22, .inl (fun _ => 0)))) 142 (.inl (0, 22, .inl (upd (upd (upd (upd (upd (upd (upd (upd (upd (upd (upd (upd (upd (upd (upd (upd (upd (upd (upd (upd (upd (upd (fun _ => 0) 0 (112 : Int32)) 1 (111 : Int32)) 2 (119 : Int32)) 3 (100 : Int32)) 4 (101 : Int32)) 5 (114 : Int32)) 6 (112 : Int32)) 7 (97 : Int32)) 8 (99 : Int32)) 9 (107 : Int32)) 10 (101 : Int32)) 11 (100 : Int32)) 12 (119 : Int32)) 13 (101 : Int32)) 14 (116 : Int32)) 15 (105 : Int32)) 16 (99 : Int32)) 17 (101 : Int32)) 18 (100 : Int32)) 19 (100 : Int32)) 20 (97 : Int32)) 21 (121 : Int32))))) 137 (.inr (7, fs.set 13 (.ref 142))), ?_, zg_ss, zE_s (zE_s (zE_n (zE_rf hn) (by decide)) (Or.inr ⟨by omega, by omega⟩)) (Or.inl rfl), by rw [zg_sn (by omega), zg_ss]⟩
  rw [zb122_67, zq_nw_o hn (by omega), zn_gs hn, zq_as_l (t := 0) (m := 22) (i := (0 : Int32)) (j := 0) rfl (by decide) (by decide), zg_ss, zq_as_l (t := 0) (m := 22) (i := (1 : Int32)) (j := 1) rfl (by decide) (by decide), zs_ss, zg_ss, zq_as_l (t := 0) (m := 22) (i := (2 : Int32)) (j := 2) rfl (by decide) (by decide), zs_ss, zg_ss, zq_as_l (t := 0) (m := 22) (i := (3 : Int32)) (j := 3) rfl (by decide) (by decide), zs_ss, zg_ss, zq_as_l (t := 0) (m := 22) (i := (4 : Int32)) (j := 4) rfl (by decide) (by decide), zs_ss, zg_ss, zq_as_l (t := 0) (m := 22) (i := (5 : Int32)) (j := 5) rfl (by decide) (by decide), zs_ss, zg_ss, zq_as_l (t := 0) (m := 22) (i := (6 : Int32)) (j := 6) rfl (by decide) (by decide), zs_ss, zg_ss, zq_as_l (t := 0) (m := 22) (i := (7 : Int32)) (j := 7) rfl (by decide) (by decide), zs_ss, zg_ss, zq_as_l (t := 0) (m := 22) (i := (8 : Int32)) (j := 8) rfl (by decide) (by decide), zs_ss, zg_ss, zq_as_l (t := 0) (m := 22) (i := (9 : Int32)) (j := 9) rfl (by decide) (by decide), zs_ss, zg_ss, zq_as_l (t := 0) (m := 22) (i := (10 : Int32)) (j := 10) rfl (by decide) (by decide), zs_ss, zg_ss, zq_as_l (t := 0) (m := 22) (i := (11 : Int32)) (j := 11) rfl (by decide) (by decide), zs_ss, zg_ss, zq_as_l (t := 0) (m := 22) (i := (12 : Int32)) (j := 12) rfl (by decide) (by decide), zs_ss, zg_ss, zq_as_l (t := 0) (m := 22) (i := (13 : Int32)) (j := 13) rfl (by decide) (by decide), zs_ss, zg_ss, zq_as_l (t := 0) (m := 22) (i := (14 : Int32)) (j := 14) rfl (by decide) (by decide), zs_ss, zg_ss, zq_as_l (t := 0) (m := 22) (i := (15 : Int32)) (j := 15) rfl (by decide) (by decide), zs_ss, zg_ss, zq_as_l (t := 0) (m := 22) (i := (16 : Int32)) (j := 16) rfl (by decide) (by decide), zs_ss, zg_ss, zq_as_l (t := 0) (m := 22) (i := (17 : Int32)) (j := 17) rfl (by decide) (by decide), zs_ss, zg_ss, zq_as_l (t := 0) (m := 22) (i := (18 : Int32)) (j := 18) rfl (by decide) (by decide), zs_ss, zg_ss, zq_as_l (t := 0) (m := 22) (i := (19 : Int32)) (j := 19) rfl (by decide) (by decide), zs_ss, zg_ss, zq_as_l (t := 0) (m := 22) (i := (20 : Int32)) (j := 20) rfl (by decide) (by decide), zs_ss, zg_ss, zq_as_l (t := 0) (m := 22) (i := (21 : Int32)) (j := 21) rfl (by decide) (by decide), zs_ss, zg_sn (by omega), zn_gn hn (by omega), hc, zq_pr_o (by omega), zm_nx]
theorem qk122_231 (hf : fs.length = 26) (hn : h.1 = 147) (hc : zm_g h 137 = .inr (7, fs)) : ∃ h', zm_den 1 122 231 [.ref 137] [] h = zm_den 1 122 258 [.ref 137] [] h' ∧ zm_g h' 137 = .inr (7, fs.set 22 (.ref 147)) ∧ zx_E h h' 137 147 148 ∧ zm_g h' 147 = .inl (0, 4, .inl (upd (upd (upd (upd (fun _ => 0) 0 (-4 : Int32)) 1 (-4 : Int32)) 2 (-4 : Int32)) 3 (-4 : Int32))) := by
  refine ⟨zm_s (zm_s (zm_n h 4 (.inl (0, 4, .inl (fun _ => 0)))) 147 (.inl (0, 4, .inl (upd (upd (upd (upd (fun _ => 0) 0 (-4 : Int32)) 1 (-4 : Int32)) 2 (-4 : Int32)) 3 (-4 : Int32))))) 137 (.inr (7, fs.set 22 (.ref 147))), ?_, zg_ss, zE_s (zE_s (zE_n (zE_rf hn) (by decide)) (Or.inr ⟨by omega, by omega⟩)) (Or.inl rfl), by rw [zg_sn (by omega), zg_ss]⟩
  rw [zb122_231, zq_nw_o hn (by omega), zn_gs hn, zq_as_l (t := 0) (m := 4) (i := (0 : Int32)) (j := 0) rfl (by decide) (by decide), zg_ss, zq_as_l (t := 0) (m := 4) (i := (1 : Int32)) (j := 1) rfl (by decide) (by decide), zs_ss, zg_ss, zq_as_l (t := 0) (m := 4) (i := (2 : Int32)) (j := 2) rfl (by decide) (by decide), zs_ss, zg_ss, zq_as_l (t := 0) (m := 4) (i := (3 : Int32)) (j := 3) rfl (by decide) (by decide), zs_ss, zg_sn (by omega), zn_gn hn (by omega), hc, zq_pr_o (by omega), zm_nx]
theorem qk122 (hn : h.1 = 138) (hc : zm_g h 137 = .inr (7, zm_df 7)) : ∃ h', zm_call 122 [.ref 137] h = some (none, h') ∧ zo_K h' zk_Y0 ∧ zx_E h h' 137 138 150 := by
  obtain ⟨h1, e1, c1, E1, d1⟩ := qk122_a (pc := 0) (pc' := 13) (k := 0) (N := 186) (by omega) (by omega) (by decide) (by decide) hn hc (fun h => (zb122_0 137 h).trans (zq_o_o (by decide)))
  obtain ⟨h2, e2, c2, E2, d2⟩ := qk122_a (pc := 13) (pc' := 21) (k := 1) (N := 31) (by omega) (by omega) (by decide) (by decide) E1.2.1 c1 (fun h => zb122_13 137 h)
  obtain ⟨h3, e3, c3, E3, d3⟩ := qk122_a (pc := 21) (pc' := 30) (k := 3) (N := 160) (by omega) (by omega) (by decide) (by decide) E2.2.1 c2 (fun h => zb122_21 137 h)
  obtain ⟨h4, e4, c4, E4, d4⟩ := qk122_30 (by rfl) E3.2.1 c3
  obtain ⟨h5, e5, c5, E5, d5⟩ := qk122_67 (by rfl) E4.2.1 c4
  obtain ⟨h6, e6, c6, E6, d6⟩ := qk122_a (pc := 201) (pc' := 208) (k := 17) (N := 5) (by omega) (by omega) (by decide) (by decide) E5.2.1 c5 (fun h => zb122_201 137 h)
  obtain ⟨h7, e7, c7, E7, d7⟩ := qk122_a (pc := 208) (pc' := 216) (k := 18) (N := 12) (by omega) (by omega) (by decide) (by decide) E6.2.1 c6 (fun h => zb122_208 137 h)
  obtain ⟨h8, e8, c8, E8, d8⟩ := qk122_a (pc := 216) (pc' := 224) (k := 20) (N := 124) (by omega) (by omega) (by decide) (by decide) E7.2.1 c7 (fun h => zb122_216 137 h)
  obtain ⟨h9, e9, c9, E9, d9⟩ := qk122_a (pc := 224) (pc' := 231) (k := 21) (N := 2) (by omega) (by omega) (by decide) (by decide) E8.2.1 c8 (fun h => zb122_224 137 h)
  obtain ⟨h10, e10, c10, E10, d10⟩ := qk122_231 (by rfl) E9.2.1 c9
  obtain ⟨h11, e11, c11, E11, d11⟩ := qk122_a (pc := 258) (pc' := 265) (k := 23) (N := 4) (by omega) (by omega) (by decide) (by decide) E10.2.1 c10 (fun h => zb122_258 137 h)
  obtain ⟨h12, e12, c12, E12, d12⟩ := qk122_a (pc := 265) (pc' := 274) (k := 24) (N := 160) (by omega) (by omega) (by decide) (by decide) E11.2.1 c11 (fun h => zb122_265 137 h)
  have F11 : zx_E h11 h12 137 149 150 := E12
  have F10 : zx_E h10 h12 137 148 150 := zE_t E11 F11 (Or.inl rfl)
  have F9 : zx_E h9 h12 137 147 150 := zE_t E10 F10 (Or.inl rfl)
  have F8 : zx_E h8 h12 137 146 150 := zE_t E9 F9 (Or.inl rfl)
  have F7 : zx_E h7 h12 137 145 150 := zE_t E8 F8 (Or.inl rfl)
  have F6 : zx_E h6 h12 137 144 150 := zE_t E7 F7 (Or.inl rfl)
  have F5 : zx_E h5 h12 137 143 150 := zE_t E6 F6 (Or.inl rfl)
  have F4 : zx_E h4 h12 137 142 150 := zE_t E5 F5 (Or.inl rfl)
  have F3 : zx_E h3 h12 137 141 150 := zE_t E4 F4 (Or.inl rfl)
  have F2 : zx_E h2 h12 137 140 150 := zE_t E3 F3 (Or.inl rfl)
  have F1 : zx_E h1 h12 137 139 150 := zE_t E2 F2 (Or.inl rfl)
  have F0 : zx_E h h12 137 138 150 := zE_t E1 F1 (Or.inl rfl)
  refine ⟨h12, ?_, ?_, F0⟩
  · rw [zc122, zm_nx, e1, e2, e3, e4, e5, e6, e7, e8, e9, e10, e11, e12, zb122_274]
  · refine ⟨fun _ => 0, fun _ => 0, ⟨c12, (F1.2.2.2.2 138 (by omega) (by omega)).trans d1⟩, ⟨rfl, fun i hi => absurd hi (Nat.not_lt_zero _), fun d _ => ⟨show (0 : Int32) = 1 - 1 by decide, show (0 : Int32) = 4 - 4 by decide⟩, rfl⟩, ⟨rfl, rfl, rfl, rfl⟩, ⟨_, (F2.2.2.2.2 139 (by omega) (by omega)).trans d2⟩, ⟨_, (F3.2.2.2.2 140 (by omega) (by omega)).trans d3, fun j hj => absurd hj (Nat.not_lt_zero _)⟩, ⟨_, (F4.2.2.2.2 141 (by omega) (by omega)).trans d4, by decide +kernel⟩, ⟨_, (F5.2.2.2.2 142 (by omega) (by omega)).trans d5, by decide +kernel⟩, ⟨_, (F6.2.2.2.2 143 (by omega) (by omega)).trans d6⟩, ⟨_, (F7.2.2.2.2 144 (by omega) (by omega)).trans d7, fun j hj => absurd hj (Nat.not_lt_zero _)⟩, ⟨_, (F8.2.2.2.2 145 (by omega) (by omega)).trans d8⟩, ⟨_, (F9.2.2.2.2 146 (by omega) (by omega)).trans d9, fun _ _ => rfl⟩, fun j hj w => absurd (show (0 : Int32) = 1 from w) (by decide), ⟨_, (F10.2.2.2.2 147 (by omega) (by omega)).trans d10, ?_⟩, ⟨_, (F11.2.2.2.2 148 (by omega) (by omega)).trans d11, fun _ _ => rfl⟩, ⟨_, d12, fun _ _ _ _ => rfl⟩⟩
    show ∀ j, j < 4 → _ = if (-1 : Int32) = -1 then (-4 : Int32) else -1
    decide +kernel
theorem zm_whole : zm_Pure := by
  intro L xs hL
  have n0 : (zm_h0 L xs).1 = 0 := rfl
  have s0 : zm_g (zm_h0 L xs) 1000000 = .inl (8, L, .inl xs) := by
    show (if (1000000 : Nat) = 1000000 then (.inl (8, L, .inl xs) : va_E) else zm_J) = _
    exact if_pos rfl
  obtain ⟨h0, eh0⟩ : ∃ h0, h0 = zm_h0 L xs := ⟨_, rfl⟩
  have z0 : h0.2.1 = 0 := by rw [eh0]; rfl
  rw [← eh0] at n0 s0 ⊢
  have n1 : (zm_n h0 (zm_df 6).length (.inr (6, zm_df 6))).1 = 1 := by show h0.1 + 1 = 1; rw [n0]
  obtain ⟨h2, e2, K2, E2⟩ := qk61 n1 (zn_gs n0)
  have n2 : h2.1 = 137 := E2.2.1
  have n3 : (zm_n h2 (zm_df 7).length (.inr (7, zm_df 7))).1 = 138 := by show h2.1 + 1 = 138; rw [n2]
  obtain ⟨h4, e4, O4, E4⟩ := qk122 n3 (zn_gs n2)
  have K4 : zk_K h4 zk_Y0 := zk_keep K2 fun b hb => by rw [E4.2.2.2.2 b (by omega) (by omega), zn_gn n2 (by omega)]
  have S4 : zm_g h4 1000000 = .inl (8, L, .inl xs) := by rw [E4.2.2.2.2 1000000 (by omega) (by omega), zn_gn n2 (by omega), E2.2.2.2.2 1000000 (by omega) (by omega), zn_gn n0 (by omega)]; exact s0
  obtain ⟨h', e5, F5⟩ := zl_loop (h0 := h4) hL 65 0 h4 zk_Y0 (by omega) (by omega) S4 K4 O4 (zFr_rf _ _ _)
  have w1 : h2.2.1 + 1000 * 1 ≤ (h0.2.1 + 14) + 1000 * 137 := E2.2.2.2.1
  have w2 : h4.2.1 + 1000 * 138 ≤ (h2.2.1 + 26) + 1000 * 150 := E4.2.2.2.1
  refine ⟨h', ?_, ?_, ?_⟩
  · have c197 : zm_call 197 [.ref 1000000] h0 = zm_nx 17 197 0 [.ref 1000000, .null, .null, .null] [] h0 := rfl
    rw [c197, zm_nx, zb197_0, zq_nw_o n0 (by omega), zq_o_o (by omega), e2, zq_bv_o, zq_nw_o n2 (by omega), zq_o_o (by omega), e4, zq_bv_o, zm_nx]
    exact e5
  · rw [F5.1, E4.2.1]
    decide
  · rw [F5.2.1]
    omega
end ZT95
