theorem zx_ti (y : Int32) : y.toInt = if 2 * y.toBitVec.toNat < 2 ^ 32 then (y.toBitVec.toNat : Int) else (y.toBitVec.toNat : Int) - ((2 ^ 32 : Nat) : Int) := BitVec.toInt_eq_toNat_cond y.toBitVec
theorem zx_s24 (x : Int32) : (x <<< ((24 : Int32) &&& 31)) >>> ((24 : Int32) &&& 31) = x.toInt8.toInt32 := by
  apply Int32.toInt_inj.mp
  rw [pk_shr _ _ 24 (by decide), Int8.toInt_toInt32, Int32.toInt_toInt8, Int.shiftRight_eq_div_pow, Int.bmod_def, zx_ti x, zx_ti (x <<< _), pk_shl x _ 24 (by decide)]
  have hn : x.toBitVec.toNat < 2 ^ 32 := x.toBitVec.isLt
  generalize x.toBitVec.toNat = n at hn ⊢
  simp only [Nat.reducePow] at hn ⊢
  split <;> split <;> split <;> omega
theorem zx_s16 (x : Int32) : (x <<< ((16 : Int32) &&& 31)) >>> ((16 : Int32) &&& 31) = x.toInt16.toInt32 := by
  apply Int32.toInt_inj.mp
  rw [pk_shr _ _ 16 (by decide), Int16.toInt_toInt32, Int32.toInt_toInt16, Int.shiftRight_eq_div_pow, Int.bmod_def, zx_ti x, zx_ti (x <<< _), pk_shl x _ 16 (by decide)]
  have hn : x.toBitVec.toNat < 2 ^ 32 := x.toBitVec.isLt
  generalize x.toBitVec.toNat = n at hn ⊢
  simp only [Nat.reducePow] at hn ⊢
  split <;> split <;> split <;> omega
theorem zw_fig_cL (x : Int32) {n : Nat} (hn : n ≤ 40) : zw_fig x n = 0 ∨ ∃ j, j < n ∧ x = nI j ∧ zw_fig x n = 1 := by
  unfold zw_fig
  rcases pk_ix x (n := n) (by omega) with h | h | ⟨j, hj, rfl⟩
  · rw [if_pos h]
    exact Or.inl rfl
  · by_cases h0 : x < 0
    · rw [if_pos h0]
      exact Or.inl rfl
    · rw [if_neg h0, if_pos h]
      exact Or.inl rfl
  · have h0 : ¬ nI j < 0 := nI_pos (by omega)
    have h2 : ¬ nI n ≤ nI j := nI_ge hj (by omega)
    rw [if_neg h0, if_neg h2]
    exact Or.inr ⟨j, hj, rfl, rfl⟩
theorem zw_fig_inL (x : Int32) {n : Nat} (hn : n ≤ 40) : zw_in x 0 (nI n - 1) = zw_fig x n := by
  have e : (nI n - 1 < x) = (nI n ≤ x) := by
    rw [Int32.lt_iff_toInt_lt, Int32.le_iff_toInt_le]
    have : (nI n - 1).toInt = (nI n).toInt - 1 := by
      have h6 : ∀ n, n < 41 → (nI n - 1).toInt = (nI n).toInt - 1 := by decide +kernel
      exact h6 n (by omega)
    rw [this]
    exact propext (by omega)
  unfold zw_in zw_fig
  by_cases h1 : x < 0
  · rw [if_pos h1, if_pos h1]
  · rw [if_neg h1, if_neg h1]
    by_cases h2 : nI n ≤ x
    · rw [if_pos h2, if_pos (e ▸ h2)]
    · rw [if_neg h2, if_neg (e ▸ h2)]
section ZT54
variable {h : zm_H} {Y : zy_T}
theorem qm_sheet_l {A g : Nat → Int32} {k : Nat} {x2 x3 : Int32} (hk : k < 4) : ∀ (c i : Nat) (h : zm_H) (cs : Nat → Int32), i + c = 40 → zo_M h 137 A g → zm_g h 149 = .inl (0, 160, .inl cs) → ∃ h' cs', zm_den 2 192 56 [.ref 137, .int (nI k), .int x2, .int x3, .int (nI i)] [] h = some (some (.int 1), h') ∧ zm_g h' 149 = .inl (0, 160, .inl cs') ∧ (∀ j, i ≤ j → j < 40 → cs' (40 * k + j) = 0) ∧ (∀ q, (q < 40 * k + i ∨ 40 * k + 40 ≤ q) → cs' q = cs q) ∧ zm_Fr h h' 149 150 := by
  intro c
  induction c with
  | zero =>
    intro i h cs hi hM hc
    have : i = 40 := by omega
    subst this
    refine ⟨h, cs, ?_, hc, fun j h1 h2 => absurd h1 (by omega), fun _ _ => rfl, zFr_rf _ _ _⟩
    rw [zb192_56, if_pos (by decide), zm_nx, zb192_82]
  | succ c ih =>
    intro i h cs hi hM hc
    have M1 : zo_M (zm_s h 149 (.inl (0, 160, .inl (upd cs (40 * k + i) 0)))) 137 A g := ⟨by rw [zg_sn (by omega)]; exact hM.1, by rw [zg_sn (by omega)]; exact hM.2⟩
    obtain ⟨h', cs', d1, d2, d3, d4, d5⟩ := ih (i + 1) _ _ (by omega) M1 zg_ss
    have hc' : zm_g h (137 + 12) = .inl (0, 160, .inl cs) := hc
    have s0 : ∀ (x : Int32) (f : va_E → zm_O), zq_as (.inl (0, 160, .inl cs)) 0 ((40 : Int32) * nI k + nI i) x f = f (.inl (0, 160, .inl (upd cs (40 * k + i) x))) := fun x f => by
      rw [show (40 : Int32) = nI 40 from rfl, pk_mul, nI_add]
      exact zq_as_o (by omega) (by decide)
    refine ⟨h', cs', ?_, d2, fun j h1 h2 => ?_, fun q hq => ?_, zFr_tr (zFr_s (by omega) (by omega)) d5⟩
    · have n40 : ¬ (40 : Int32) ≤ nI i := nI_ge (b := 40) (by omega) (by decide)
      rw [zb192_56, if_neg n40, zm_nx, zb192_63]
      simp only [hM.1, zor24, hc', s0, nI_1]
      exact d1
    · by_cases z : j = i
      · subst z
        rw [d4 _ (by omega), pk_us]
      · exact d3 j (by omega) h2
    · rw [d4 q (by omega), pk_un (by omega)]
theorem zt_sheet (x y z : Int32) (hK : zk_K h Y) (hO : zo_K h Y) : zt_R 100 192 [.int x, .int y, .int z] h := by
  have k0 := hK.1
  obtain ⟨kV, kO, kd⟩ := hK.2.1
  obtain ⟨ad, Q, -, -, v1, v2, v3, v4⟩ := zV_row kV
  obtain ⟨A, g, a1, a2, a3, -⟩ := id hO
  have h10 : ¬ (1 : Int32) = 0 := by decide
  obtain ⟨⟨gs, s1, s2⟩, s3, s4, s5⟩ := id hK.2.2.2.2.2.2
  have c0 := qc_within (h := h) x 3
  have m0 := fun h : zm_H => qm_in (h := h) x 0 3 (0 : Int64) (3 : Int64) (by decide) (by decide)
  have c1 := qc_within (h := h) y 2
  have m1 := fun h : zm_H => qm_in (h := h) y 0 2 (0 : Int64) (2 : Int64) (by decide) (by decide)
  have h4 : (4 : Nat) < 2 ^ 31 := by decide
  rcases zw_in_c x (u := 3) (by decide) with e | ⟨k, hk, ex, e⟩
  · have e' : zw_in x 0 3 = 0 := e
    refine zt_ro (r := -1) hK hO ?_ ?_
    · simp only [zc100, zB100, c0, e', zm_nx, zq_rc_o, zq_bi_o, zq_bl_o, zq_bv_o, not_true_eq_false, not_false_eq_true, if_true, if_false, h10, ite_self]
    · simp only [zc192, zB192, m0, e', zm_nx, zq_rc_o, zq_bi_o, zq_bl_o, zq_bv_o, not_true_eq_false, not_false_eq_true, if_true, if_false, h10, ite_self]
  · subst ex
    have e' : zw_in (nI k) 0 3 = 1 := e
    rcases zw_in_c y (u := 2) (by decide) with f | ⟨l, hl, ey, f⟩
    · have f' : zw_in y 0 2 = 0 := f
      refine zt_ro (r := -1) hK hO ?_ ?_
      · simp only [zc100, zB100, c0, e', c1, f', zm_nx, zq_rc_o, zq_bi_o, zq_bl_o, zq_bv_o, not_true_eq_false, not_false_eq_true, if_true, if_false, h10, ite_self]
      · simp only [zc192, zB192, m0, e', m1, f', zm_nx, zq_rc_o, zq_bi_o, zq_bl_o, zq_bv_o, not_true_eq_false, not_false_eq_true, if_true, if_false, h10, ite_self]
    · subst ey
      have f' : zw_in (nI l) 0 2 = 1 := f
      by_cases z1 : z ≤ 40
      · by_cases z2 : 0 ≤ z
        · obtain ⟨n, hn, ez⟩ := nI_of2 (x := z) (M := 40) (n := 40) (by decide) (Int32.not_lt.mpr z2) z1
          subst ez
          have hk4 : k < 4 := by omega
          obtain ⟨gc, s6, s7⟩ := s4 k hk4
          obtain ⟨h1, t1, t2, t3⟩ := qc_fill (h := zm_s h (129 + 2 * k) (.inr (3, [.ref (130 + 2 * k), .int (nI l), .int (nI n)]))) (a := 130 + 2 * k) (x := 0) (m := 40) (w := gc) (by decide) ⟨gc, by rw [zg_sn (by omega)]; exact s6, fun _ _ => rfl⟩
          have kk : ∀ b, b ≠ 129 + 2 * k → b ≠ 130 + 2 * k → zm_g h1 b = zm_g h b := fun b b1 b2 => (t3.2.2 b (by omega)).trans (zg_sn b1)
          have H1 : zk_H h1 (fun j => if j = k then (nI l, n, fun _ => 0) else Y.2.2.2.2.2 j) := by
            refine ⟨⟨gs, by rw [kk 128 (by omega) (by omega)]; exact s1, s2⟩, fun j hj => ?_, fun j hj => ?_, fun j hj => ?_⟩
            · by_cases q : j = k
              · subst q
                simp only [if_true]
                rw [t3.2.2 _ (by omega), zg_ss]
              · simp only [q, if_false]
                rw [kk _ (by omega) (by omega)]
                exact s3 j hj
            · by_cases q : j = k
              · subst q
                simp only [if_true]
                exact t2
              · simp only [q, if_false]
                rw [kk _ (by omega) (by omega)]
                exact s4 j hj
            · show ((if j = k then (nI l, n, fun _ => 0) else Y.2.2.2.2.2 j).1 = -1 ∨ (if j = k then (nI l, n, fun _ => 0) else Y.2.2.2.2.2 j).1 = 0 ∨ (if j = k then (nI l, n, fun _ => 0) else Y.2.2.2.2.2 j).1 = 1 ∨ (if j = k then (nI l, n, fun _ => 0) else Y.2.2.2.2.2 j).1 = 2) ∧ (if j = k then (nI l, n, fun _ => 0) else Y.2.2.2.2.2 j).2.1 ≤ 40
              by_cases q : j = k
              · rw [if_pos q]
                refine ⟨?_, hn⟩
                match l, hl with
                | 0, _ => exact Or.inr (Or.inl rfl)
                | 1, _ => exact Or.inr (Or.inr (Or.inl rfl))
                | 2, _ => exact Or.inr (Or.inr (Or.inr rfl))
                | l + 3, hl => exact absurd hl (by omega)
              · rw [if_neg q]
                exact s5 j hj
          refine zt_mk hO (r := 1) ?_ (zk_setH hK H1 fun b hb => kk b (by omega) (by omega)) ⟨t3.1, t3.2.1, fun b hb => kk b (by omega) (by omega)⟩ fun O1 => ?_
          · have q1 : zm_call 57 [.ref (129 + 2 * k), .int (nI l), .int (nI n)] h = some (none, h1) := by
              simp only [zc57, zB57, s3 k hk4, zpi_3_1, zg_ss, zpi_3_2, zs_ss, zgr_3_0, t1, zm_nx, zq_rc_o, zq_bi_o, zq_bl_o, zq_bv_o, not_true_eq_false, not_false_eq_true, if_true, if_false, h10, ite_self]
            simp only [zc100, zB100, c0, e', c1, f', z1, z2, k0, zkr13, s1, zq_ql_o hk4 h4 (s2 k hk4), s3 k hk4, q1, zm_nx, zq_rc_o, zq_bi_o, zq_bl_o, zq_bv_o, not_true_eq_false, not_false_eq_true, if_true, if_false, h10, ite_self]
          obtain ⟨A, g, a1, a2, a3, -, -, -, -, -, -, -, -, -, ⟨r1, b1, b2⟩, ⟨r2, b3, b4⟩, ⟨r3, b5, b6⟩⟩ := id O1
          obtain ⟨H2, eH⟩ : ∃ H2, H2 = zm_s (zm_s h1 147 (.inl (0, 4, .inl (upd r1 k (nI l))))) 148 (.inl (0, 4, .inl (upd r2 k (nI n)))) := ⟨_, rfl⟩
          have k2 : ∀ b, b ≠ 147 → b ≠ 148 → zm_g H2 b = zm_g h1 b := fun b b1 b2 => by rw [eH, zg_sn b2, zg_sn b1]
          obtain ⟨h2, cs, d1, d2, d3, d4, d5⟩ := qm_sheet_l (A := A) (g := g) (k := k) (x2 := nI l) (x3 := nI n) hk4 40 0 H2 r3 (by omega) ⟨(k2 _ (by omega) (by omega)).trans a1.1, (k2 _ (by omega) (by omega)).trans a1.2⟩ ((k2 _ (by omega) (by omega)).trans b5)
          refine ⟨h2, ?_, zo_setH (S := fun j => if j = k then (nI l, n, fun _ => 0) else Y.2.2.2.2.2 j) O1 a1 ⟨(d5.2.2 _ (by omega)).trans ((k2 _ (by omega) (by omega)).trans a1.1), (d5.2.2 _ (by omega)).trans ((k2 _ (by omega) (by omega)).trans a1.2)⟩ ⟨upd r1 k (nI l), by rw [d5.2.2 _ (by omega), eH, zg_sn (by omega), zg_ss], fun j hj => ?_⟩ ⟨upd r2 k (nI n), by rw [d5.2.2 _ (by omega), eH, zg_ss], fun j hj => ?_⟩ ⟨cs, d2, fun j hj i hi => ?_⟩ fun b b1 b2 b3 b4 b5 => (d5.2.2 b (by omega)).trans (k2 b (by omega) (by omega)), ⟨d5.1.trans (by rw [eH]; rfl), d5.2.1.trans (by rw [eH]; rfl), fun b hb => (d5.2.2 b (by omega)).trans (k2 b (by omega) (by omega))⟩⟩
          · have b1' : zm_g h1 (137 + 10) = .inl (0, 4, .inl r1) := b1
            have b3' : zm_g h1 (137 + 11) = .inl (0, 4, .inl r2) := b3
            have d1' : zm_den 2 192 56 [.ref 137, .int (nI k), .int (nI l), .int (nI n), .int (0 : Int32)] [] (zm_s (zm_s h1 (137 + 10) (.inl (0, 4, .inl (upd r1 k (nI l))))) (137 + 11) (.inl (0, 4, .inl (upd r2 k (nI n))))) = some (some (.int 1), h2) := by rw [eH] at d1; exact d1
            simp only [zc192, zB192, m0, e', m1, f', z1, z2, a1.1, zor22, zor23, b1', zq_as_o hk4 h4, zg_sn (show 137 ≠ 137 + 10 by omega), zg_sn (show 137 + 11 ≠ 137 + 10 by omega), b3', d1', zm_nx, zq_rc_o, zq_bi_o, zq_bl_o, zq_bv_o, not_true_eq_false, not_false_eq_true, if_true, if_false, h10, ite_self]
          · show _ = if (if j = k then (nI l, n, fun _ => 0) else Y.2.2.2.2.2 j).1 = -1 then -4 else (if j = k then (nI l, n, fun _ => 0) else Y.2.2.2.2.2 j).1
            by_cases q : j = k
            · subst q
              have nl : ¬ nI l = -1 := by
                match l, hl with
                | 0, _ => decide
                | 1, _ => decide
                | 2, _ => decide
                | l + 3, hl => exact absurd hl (by omega)
              rw [if_pos rfl, pk_us, if_neg nl]
            · rw [if_neg q, pk_un q]
              exact b2 j hj
          · show _ = nI (if j = k then (nI l, n, fun _ => 0) else Y.2.2.2.2.2 j).2.1
            by_cases q : j = k
            · subst q
              rw [if_pos rfl, pk_us]
            · rw [if_neg q, pk_un q]
              exact b4 j hj
          · show _ = (if j = k then (nI l, n, fun _ => 0) else Y.2.2.2.2.2 j).2.2 i
            by_cases q : j = k
            · subst q
              rw [if_pos rfl, d3 i (by omega) hi]
            · rw [if_neg q, d4 _ (by omega)]
              exact b6 j hj i hi
        · refine zt_ro (r := -14) hK hO ?_ ?_
          · simp only [zc100, zB100, c0, e', c1, f', z1, z2, zm_nx, zq_rc_o, zq_bi_o, zq_bl_o, zq_bv_o, not_true_eq_false, not_false_eq_true, if_true, if_false, h10, ite_self]
          · simp only [zc192, zB192, m0, e', m1, f', z1, z2, zm_nx, zq_rc_o, zq_bi_o, zq_bl_o, zq_bv_o, not_true_eq_false, not_false_eq_true, if_true, if_false, h10, ite_self]
      · refine zt_ro (r := -1) hK hO ?_ ?_
        · simp only [zc100, zB100, c0, e', c1, f', z1, zm_nx, zq_rc_o, zq_bi_o, zq_bl_o, zq_bv_o, not_true_eq_false, not_false_eq_true, if_true, if_false, h10, ite_self]
        · simp only [zc192, zB192, m0, e', m1, f', z1, zm_nx, zq_rc_o, zq_bi_o, zq_bl_o, zq_bv_o, not_true_eq_false, not_false_eq_true, if_true, if_false, h10, ite_self]
def zx_val (l v : Int32) : Int32 := if l = 0 then v.toInt8.toInt32 else if l = 1 then v.toInt16.toInt32 else v
theorem zt_lay (x y z : Int32) (hK : zk_K h Y) (hO : zo_K h Y) : zt_R 101 193 [.int x, .int y, .int z] h := by
  have k0 := hK.1
  obtain ⟨kV, kO, kd⟩ := hK.2.1
  obtain ⟨ad, Q, -, -, v1, v2, v3, v4⟩ := zV_row kV
  obtain ⟨A, g, a1, a2, a3, -⟩ := id hO
  have h10 : ¬ (1 : Int32) = 0 := by decide
  obtain ⟨⟨gs, s1, s2⟩, s3, s4, s5⟩ := id hK.2.2.2.2.2.2
  obtain ⟨A, g, a1, a2, a3, -, -, -, -, -, -, -, -, -, ⟨r1, b1, b2⟩, ⟨r2, b3, b4⟩, ⟨r3, b5, b6⟩⟩ := id hO
  have b1' : zm_g h (137 + 10) = .inl (0, 4, .inl r1) := b1
  have b3' : zm_g h (137 + 11) = .inl (0, 4, .inl r2) := b3
  have c0 := qc_within (h := h) x 3
  have m0 := fun h : zm_H => qm_in (h := h) x 0 3 (0 : Int64) (3 : Int64) (by decide) (by decide)
  have m1 := fun (h : zm_H) (u : Int32) => qm_in (h := h) y 0 u (0 : Int64) u.toInt64 (by decide) rfl
  have h4 : (4 : Nat) < 2 ^ 31 := by decide
  rcases zw_in_c x (u := 3) (by decide) with e | ⟨k, hk, ex, e⟩
  · have e' : zw_in x 0 3 = 0 := e
    refine zt_ro (r := -1) hK hO ?_ ?_
    · simp only [zc101, zB101, c0, e', zm_nx, zq_rc_o, zq_bi_o, zq_bl_o, zq_bv_o, not_true_eq_false, not_false_eq_true, if_true, if_false, h10, ite_self]
    · simp only [zc193, zB193, m0, e', zm_nx, zq_rc_o, zq_bi_o, zq_bl_o, zq_bv_o, not_true_eq_false, not_false_eq_true, if_true, if_false, h10, ite_self]
  · subst ex
    have e' : zw_in (nI k) 0 3 = 1 := e
    have hk4 : k < 4 := by omega
    have L1 := b2 k hk4
    obtain ⟨sl, sn⟩ := s5 k hk4
    by_cases u : (Y.2.2.2.2.2 k).1 = -1
    · rw [if_pos u] at L1
      refine zt_ro (r := -11) hK hO ?_ ?_
      · have q1 : zm_call 59 [.ref (129 + 2 * k), .int y, .int (Y.2.2.2.2.2 k).1] h = some (some (.int 1), h) := by
          simp only [zc59, zB59, s3 k hk4, zgi_3_1, u, zm_nx, zq_rc_o, zq_bi_o, zq_bl_o, zq_bv_o, not_true_eq_false, not_false_eq_true, if_true, if_false, h10, ite_self]
        simp only [zc101, zB101, c0, e', k0, zkr13, s1, zq_ql_o hk4 h4 (s2 k hk4), s3 k hk4, zgi_3_1, q1, zm_nx, zq_rc_o, zq_bi_o, zq_bl_o, zq_bv_o, not_true_eq_false, not_false_eq_true, if_true, if_false, h10, ite_self]
        rfl
      · simp only [zc193, zB193, m0, e', a1.1, zor22, b1', zq_al_o hk4 h4, L1, zm_nx, zq_rc_o, zq_bi_o, zq_bl_o, zq_bv_o, not_true_eq_false, not_false_eq_true, if_true, if_false, h10, ite_self]
    · rw [if_neg u] at L1
      have u4 : ¬ (Y.2.2.2.2.2 k).1 = -4 := by
        rcases sl with q | q | q | q
        · exact absurd q u
        · rw [q]; decide
        · rw [q]; decide
        · rw [q]; decide
      rcases zw_fig_cL y sn with f | ⟨i, hi, ey, f⟩
      · have f2 := zw_fig_inL y sn
        rw [f] at f2
        refine zt_ro (r := -12) hK hO ?_ ?_
        · have q1 : zm_call 59 [.ref (129 + 2 * k), .int y, .int (Y.2.2.2.2.2 k).1] h = some (some (.int 2), h) := by
            unfold zw_fig at f
            simp only [zc59, zB59, s3 k hk4, zgi_3_1, zgi_3_2, u, zm_nx, zq_rc_o, zq_bi_o, zq_bl_o, zq_bv_o, not_true_eq_false, not_false_eq_true, if_true, if_false, h10, ite_self]
            by_cases p1 : y < 0
            · simp only [p1, zm_nx, zq_rc_o, zq_bi_o, zq_bl_o, zq_bv_o, not_true_eq_false, not_false_eq_true, if_true, if_false, h10, ite_self]
            · rw [if_neg p1] at f
              by_cases p2 : nI (Y.2.2.2.2.2 k).2.1 ≤ y
              · have p3 : ¬ y < nI (Y.2.2.2.2.2 k).2.1 := Int32.not_lt.mpr p2
                simp only [p1, p3, zm_nx, zq_rc_o, zq_bi_o, zq_bl_o, zq_bv_o, not_true_eq_false, not_false_eq_true, if_true, if_false, h10, ite_self]
              · rw [if_neg p2] at f
                exact absurd f (by decide)
          simp only [zc101, zB101, c0, e', k0, zkr13, s1, zq_ql_o hk4 h4 (s2 k hk4), s3 k hk4, zgi_3_1, q1, show ¬ (2 : Int32) = 0 by decide, zm_nx, zq_rc_o, zq_bi_o, zq_bl_o, zq_bv_o, not_true_eq_false, not_false_eq_true, if_true, if_false, h10, ite_self]
          rfl
        · simp only [zc193, zB193, m0, e', a1.1, zor22, b1', zq_al_o hk4 h4, L1, u4, zor23, b3', b4 k hk4, m1, f2, zm_nx, zq_rc_o, zq_bi_o, zq_bl_o, zq_bv_o, not_true_eq_false, not_false_eq_true, if_true, if_false, h10, ite_self]
      · subst ey
        have f2 := zw_fig_inL (nI i) sn
        rw [f] at f2
        obtain ⟨gc, s6, s7⟩ := s4 k hk4
        have i40 : i < 40 := by omega
        have h40 : (40 : Nat) < 2 ^ 31 := by decide
        have F59 : zm_call 59 [.ref (129 + 2 * k), .int (nI i), .int (Y.2.2.2.2.2 k).1] h = some (some (.int 0), h) := by
          have p1 : ¬ nI i < 0 := nI_pos (by omega)
          have p2 : nI i < nI (Y.2.2.2.2.2 k).2.1 := nI_lt hi (by omega)
          simp only [zc59, zB59, s3 k hk4, zgi_3_1, zgi_3_2, u, p1, p2, zm_nx, zq_rc_o, zq_bi_o, zq_bl_o, zq_bv_o, not_true_eq_false, not_false_eq_true, if_true, if_false, h10, ite_self]
        have F58 : zm_call 58 [.ref (129 + 2 * k), .int (nI i), .int z] h = some (none, zm_s h (130 + 2 * k) (.inl (0, 40, .inl (upd gc i (zx_val (Y.2.2.2.2.2 k).1 z))))) := by
          unfold zx_val
          by_cases l0 : (Y.2.2.2.2.2 k).1 = 0
          · simp only [zc58, zB58, s3 k hk4, zgi_3_1, l0, zgr_3_0, s6, zq_as_o i40 h40, zm_nx, zq_rc_o, zq_bi_o, zq_bl_o, zq_bv_o, not_true_eq_false, not_false_eq_true, if_true, if_false, h10, ite_self]
          · by_cases l1 : (Y.2.2.2.2.2 k).1 = 1
            · simp only [zc58, zB58, s3 k hk4, zgi_3_1, l1, zgr_3_0, s6, zq_as_o i40 h40, zm_nx, zq_rc_o, zq_bi_o, zq_bl_o, zq_bv_o, not_true_eq_false, not_false_eq_true, if_true, if_false, h10, ite_self]
            · simp only [zc58, zB58, s3 k hk4, zgi_3_1, l0, l1, zgr_3_0, s6, zq_as_o i40 h40, zm_nx, zq_rc_o, zq_bi_o, zq_bl_o, zq_bv_o, not_true_eq_false, not_false_eq_true, if_true, if_false, h10, ite_self]
        obtain ⟨W, eW⟩ : ∃ W, W = zx_val (Y.2.2.2.2.2 k).1 z := ⟨_, rfl⟩
        rw [← eW] at F58
        have kk : ∀ b, b ≠ 130 + 2 * k → zm_g (zm_s h (130 + 2 * k) (.inl (0, 40, .inl (upd gc i W)))) b = zm_g h b := fun b b2 => zg_sn b2
        have H1 : zk_H (zm_s h (130 + 2 * k) (.inl (0, 40, .inl (upd gc i W)))) (fun j => if j = k then ((Y.2.2.2.2.2 k).1, (Y.2.2.2.2.2 k).2.1, upd (Y.2.2.2.2.2 k).2.2 i W) else Y.2.2.2.2.2 j) := by
          refine ⟨⟨gs, by rw [kk 128 (by omega)]; exact s1, s2⟩, fun j hj => ?_, fun j hj => ?_, fun j hj => ?_⟩
          · rw [kk _ (by omega)]
            by_cases q : j = k
            · subst q
              simp only [if_true]
              exact s3 j hj
            · simp only [q, if_false]
              exact s3 j hj
          · by_cases q : j = k
            · subst q
              simp only [if_true]
              refine ⟨_, zg_ss, fun p hp => ?_⟩
              by_cases r : p = i
              · subst r
                rw [pk_us, pk_us]
              · rw [pk_un r, pk_un r]
                exact s7 p hp
            · simp only [q, if_false]
              rw [kk _ (by omega)]
              exact s4 j hj
          · by_cases q : j = k
            · subst q
              simp only [if_true]
              exact s5 j hj
            · simp only [q, if_false]
              exact s5 j hj
        refine zt_mk hO (r := 1) ?_ (zk_setH hK H1 fun b hb => kk b (by omega)) (zFr_s (by omega) (by omega)) fun O1 => ?_
        · simp only [zc101, zB101, c0, e', k0, zkr13, s1, zq_ql_o hk4 h4 (s2 k hk4), s3 k hk4, zgi_3_1, F59, F58, zm_nx, zq_rc_o, zq_bi_o, zq_bl_o, zq_bv_o, not_true_eq_false, not_false_eq_true, if_true, if_false, h10, ite_self]
        obtain ⟨A, g, a1, a2, a3, -, -, -, -, -, -, -, -, -, ⟨r1, b1, b2⟩, ⟨r2, b3, b4⟩, ⟨r3, b5, b6⟩⟩ := id O1
        have b1' : zm_g (zm_s h (130 + 2 * k) (.inl (0, 40, .inl (upd gc i W)))) (137 + 10) = .inl (0, 4, .inl r1) := b1
        have b3' : zm_g (zm_s h (130 + 2 * k) (.inl (0, 40, .inl (upd gc i W)))) (137 + 11) = .inl (0, 4, .inl r2) := b3
        have b5' : zm_g (zm_s h (130 + 2 * k) (.inl (0, 40, .inl (upd gc i W)))) (137 + 12) = .inl (0, 160, .inl r3) := b5
        have L1 := b2 k hk4
        rw [if_neg u] at L1
        have s0 : ∀ (x : Int32) (f : va_E → zm_O), zq_as (.inl (0, 160, .inl r3)) 0 ((40 : Int32) * nI k + nI i) x f = f (.inl (0, 160, .inl (upd r3 (40 * k + i) x))) := fun x f => by
          rw [show (40 : Int32) = nI 40 from rfl, pk_mul, nI_add]
          exact zq_as_o (by omega) (by decide)
        refine ⟨zm_s _ 149 (.inl (0, 160, .inl (upd r3 (40 * k + i) W))), ?_, zo_setH (S := fun j => if j = k then ((Y.2.2.2.2.2 k).1, (Y.2.2.2.2.2 k).2.1, upd (Y.2.2.2.2.2 k).2.2 i W) else Y.2.2.2.2.2 j) O1 a1 ⟨by rw [zg_sn (by omega)]; exact a1.1, by rw [zg_sn (by omega)]; exact a1.2⟩ ⟨r1, by rw [zg_sn (by omega)]; exact b1, fun j hj => ?_⟩ ⟨r2, by rw [zg_sn (by omega)]; exact b3, fun j hj => ?_⟩ ⟨upd r3 (40 * k + i) W, zg_ss, fun j hj p hp => ?_⟩ fun b b1 b2 b3 b4 b5 => zg_sn (by omega), zFr_s (by omega) (by omega)⟩
        · unfold zx_val at eW
          by_cases l0 : (Y.2.2.2.2.2 k).1 = 0
          · have n4 : ¬ (0 : Int32) = -4 := by decide
            rw [if_pos l0] at eW
            simp only [zc193, zB193, m0, e', a1.1, zor22, b1', zq_al_o hk4 h4, L1, l0, n4, zor23, b3', b4 k hk4, m1, f2, zor24, b5', s0, zx_s24, zx_s16, ← eW, zm_nx, zq_rc_o, zq_bi_o, zq_bl_o, zq_bv_o, not_true_eq_false, not_false_eq_true, if_true, if_false, h10, ite_self]
          · by_cases l1 : (Y.2.2.2.2.2 k).1 = 1
            · have n4 : ¬ (1 : Int32) = -4 := by decide
              rw [if_neg l0, if_pos l1] at eW
              simp only [zc193, zB193, m0, e', a1.1, zor22, b1', zq_al_o hk4 h4, L1, l1, n4, zor23, b3', b4 k hk4, m1, f2, zor24, b5', s0, zx_s24, zx_s16, ← eW, zm_nx, zq_rc_o, zq_bi_o, zq_bl_o, zq_bv_o, not_true_eq_false, not_false_eq_true, if_true, if_false, h10, ite_self]
            · rw [if_neg l0, if_neg l1] at eW
              simp only [zc193, zB193, m0, e', a1.1, zor22, b1', zq_al_o hk4 h4, L1, u4, l0, l1, zor23, b3', b4 k hk4, m1, f2, zor24, b5', s0, zx_s24, zx_s16, ← eW, zm_nx, zq_rc_o, zq_bi_o, zq_bl_o, zq_bv_o, not_true_eq_false, not_false_eq_true, if_true, if_false, h10, ite_self]
        · by_cases q : j = k
          · subst q
            simp only [if_true]
            exact b2 j hj
          · simp only [q, if_false]
            exact b2 j hj
        · by_cases q : j = k
          · subst q
            simp only [if_true]
            exact b4 j hj
          · simp only [q, if_false]
            exact b4 j hj
        · by_cases q : j = k
          · subst q
            simp only [if_true]
            by_cases r : p = i
            · subst r
              rw [pk_us, pk_us]
            · rw [pk_un r, pk_un (by omega)]
              exact b6 j hj p hp
          · simp only [q, if_false]
            rw [pk_un (by omega)]
            exact b6 j hj p hp
end ZT54
