section ZT70
variable {h h0 : zm_H} {Y : zy_T} {A0 g0 A g : Nat → Int32} {P Q : zp_T} {s : zs_T} {sa : Nat → Int32}
theorem zo_J5 {d : Nat → Int32} (J : zo_J h0 h A0 g0 A g) : zo_J h0 (zm_s h 145 (.inl (0, 124, .inl d))) A0 g0 A g := by
  obtain ⟨j1, j2, j3, j4, j5, j6, j7, j8⟩ := J
  exact ⟨⟨by rw [zg_sn (by omega)]; exact j1.1, by rw [zg_sn (by omega)]; exact j1.2⟩, j2, j3, zx_k1 (zg_sn (by omega)) j4, ⟨d, zg_ss⟩, j6, j7, fun b b1 b2 b3 b4 => by rw [zg_sn b4]; exact j8 b b1 b2 b3 b4⟩
theorem qm_seen_l {x1 : Int32} {n : Nat} (hA : A0 19 = nI s.1) (hm : s.1 ≤ 6) (h144 : zm_g h0 144 = .inl (0, 12, .inl sa)) (hs : ∀ j, j < s.1 → sa (2 * j) = s.2.1 j ∧ sa (2 * j + 1) = zx_sd (s.2.2 j)) (J : zo_J h0 h A0 g0 A g) (hP : zs_P g 124 Q) (hn : Q.1 ≤ 5) : ∀ (k e : Nat) (b : Bool), e + k = s.1 → zm_den 4 183 37 [.ref 137, .int x1, .int (zx_b b), .int (nI n), .int (nI e)] [] h = zm_den 4 183 95 [.ref 137, .int x1, .int (zx_b (b && zx_as s (nI n) (zp_dec Q) k e)), .int (nI n), .int (nI s.1)] [] h := by
  have h12 : (12 : Nat) < 2 ^ 31 := by decide
  have a19 : A 19 = nI s.1 := (J.2.1 19 (by decide) (by decide) (by decide)).trans hA
  have c144 : zm_g h (137 + 7) = .inl (0, 12, .inl sa) := (J.2.2.2.2.2.2.2 144 (by decide) (by decide) (by decide) (by decide)).trans h144
  have dq : zm_call 144 [.ref 137, .int (124 : Int32)] h = some (some (.int (zp_dec Q)), h) := qm_dec (p := 124) (zo_Ms J.1) hP (by omega) hn
  intro k
  induction k with
  | zero =>
    intro e b he
    have : e = s.1 := by omega
    subst this
    rw [zb183_37]
    simp only [J.1.1, zoi19, a19, nI_leB (show s.1 < 100000 by omega) (show s.1 < 100000 by omega), Nat.le_refl, if_true, zm_nx]
    unfold zx_as
    rw [Bool.and_true]
  | succ k ih =>
    intro e b he
    have l1 : ∀ o : Int32 → zm_O, zq_al (.inl (0, 12, .inl sa)) 0 ((2 : Int32) * nI e) o = o (s.2.1 e) := fun o => zy_al (j := 2 * e) (pk_mul 2 e) (by omega) h12 (hs e (by omega)).1
    have l2 : ∀ o : Int32 → zm_O, zq_al (.inl (0, 12, .inl sa)) 0 ((2 : Int32) * nI e + 1) o = o (zx_sd (s.2.2 e)) := fun o => zy_al (j := 2 * e + 1) (by rw [show (2 : Int32) * nI e = nI (2 * e) from pk_mul 2 e, nI_1]) (by omega) h12 (hs e (by omega)).2
    rw [zb183_37]
    simp only [J.1.1, zoi19, a19, nI_leB (show s.1 < 100000 by omega) (show e < 100000 by omega), show ¬ s.1 ≤ e by omega, if_false, zm_nx]
    rw [zb183_46]
    cases b with
    | false =>
      have := ih (e + 1) false (by omega)
      rw [if_pos (by decide), zm_nx, zb183_87, zm_nx, zb183_88, zm_nx, nI_1]
      exact this
    | true =>
      rw [if_neg (by decide), zm_nx, zb183_50]
      simp only [J.1.1, zor18, c144, l1, zm_nx]
      unfold zx_as
      by_cases z : s.2.1 e = nI n
      · rw [if_neg (not_not_intro z), zb183_63, if_pos z]
        simp only [J.1.1, zq_rc_o, dq, zq_bi_o, zor18, c144, l2, zm_nx]
        by_cases y : zx_sd (s.2.2 e) = zp_dec Q
        · have := ih (e + 1) true (by omega)
          rw [if_neg (not_not_intro y.symm), zb183_83, zm_nx, zb183_88, zm_nx, nI_1, if_pos y]
          exact this
        · have := ih (e + 1) false (by omega)
          rw [if_pos (fun q => y q.symm), zb183_87, zm_nx, zb183_88, zm_nx, nI_1, if_neg y]
          exact this
      · have := ih (e + 1) true (by omega)
        rw [if_pos z, zb183_83, zm_nx, zb183_88, zm_nx, nI_1, if_neg z]
        exact this
theorem qm_asn_l {row : Nat} (hrow : row < 4) (hA : A0 19 = nI s.1) (hm : s.1 ≤ 6) (h144 : zm_g h0 144 = .inl (0, 12, .inl sa)) (hs : ∀ j, j < s.1 → sa (2 * j) = s.2.1 j ∧ sa (2 * j + 1) = zx_sd (s.2.2 j)) : ∀ (k n : Nat) (h : zm_H) (g dd : Nat → Int32) (Q : zp_T) (b : Bool) (v4 : Value), n + k = 31 → Q.2.2.2.2 + k < 100000 → zp_ok Q → zo_J h0 h A0 g0 A g → zs_P g 124 Q → zm_g h 145 = .inl (0, 124, .inl dd) → ∃ h' g' dd', zm_den 4 183 11 [.ref 137, .int (nI row), .int (zx_b b), .int (nI n), v4] [] h = some (some (.int (zx_b (b && zp_fit s k n Q))), h') ∧ zo_J h0 h' A0 g0 A g' ∧ zm_g h' 145 = .inl (0, 124, .inl dd') ∧ (∀ t, t < k → dd' (31 * row + n + t) = zp_dec (zp_run t Q)) ∧ (∀ q, (q < 31 * row + n ∨ 31 * row + 31 ≤ q) → dd' q = dd q) ∧ ∀ q, (q < 124 ∨ 155 ≤ q) → g' q = g q := by
  intro k
  induction k with
  | zero =>
    intro n h g dd Q b v4 hn hd ho J hP hdd
    have : n = 31 := by omega
    subst this
    refine ⟨h, g, dd, ?_, J, hdd, fun t ht => absurd ht (by omega), fun _ _ => rfl, fun _ _ => rfl⟩
    rw [zb183_11, if_pos (by decide), zm_nx, zb183_107]
    unfold zp_fit
    rw [Bool.and_true]
    cases b
    · exact zq_rz_0
    · exact zq_rz_1
  | succ k ih =>
    intro n h g dd Q b v4 hn hd ho J hP hdd
    have dq : zm_call 144 [.ref 137, .int (124 : Int32)] h = some (some (.int (zp_dec Q)), h) := qm_dec (p := 124) (zo_Ms J.1) hP (by omega) ho.1
    have hlt : ¬ (30 : Int32) < nI n := nI_nlt (a := 30) (b := n) (by omega) (by decide)
    have c145 : zm_g h (137 + 8) = .inl (0, 124, .inl dd) := hdd
    have s1 : ∀ (x : Int32) (o : va_E → zm_O), zq_as (.inl (0, 124, .inl dd)) 0 ((31 : Int32) * nI row + nI n) x o = o (.inl (0, 124, .inl (upd dd (31 * row + n) x))) := fun x o => by
      rw [show (31 : Int32) * nI row + nI n = nI (31 * row + n) from by rw [show (31 : Int32) * nI row = nI (31 * row) from pk_mul 31 row, nI_add]]
      exact zq_as_o (by omega) (by decide)
    have J1 := zo_J5 (d := upd dd (31 * row + n) (zp_dec Q)) J
    have L := qm_seen_l (x1 := nI row) (n := n) hA hm h144 hs J1 hP ho.1 s.1 0 b (by omega)
    obtain ⟨h2, g2, e1, e2, e3, e4, e5⟩ := qm_go J1.1 hP (by omega) ho (by omega)
    have e1' : zm_call 141 [.ref 137, .int (124 : Int32)] (zm_s h 145 (.inl (0, 124, .inl (upd dd (31 * row + n) (zp_dec Q))))) = some (none, h2) := e1
    obtain ⟨h', g', dd', d1, d2, d3, d4, d5, d6⟩ := ih (n + 1) h2 g2 (upd dd (31 * row + n) (zp_dec Q)) (zp_pass Q) (b && zx_as s (nI n) (zp_dec Q) s.1 0) (.int (nI s.1)) (by omega) (by show Q.2.2.2.2 + 1 + k < _; omega) (zp_ok_pass ho) (zo_Jm J1 e2 (fun q _ _ => e5 q (by omega)) e4) e3 ((e4.2.2 145 (by omega)).trans zg_ss)
    refine ⟨h', g', dd', ?_, d2, d3, fun t ht => ?_, fun q hq => ?_, fun q hq => (d6 q hq).trans (e5 q (by omega))⟩
    · rw [zb183_11, if_neg hlt, zm_nx, zb183_17]
      simp only [J.1.1, zor20, zq_rc_o, dq, zq_bi_o, c145, s1, zm_nx]
      have L' : zm_den 4 183 37 [.ref 137, .int (nI row), .int (zx_b b), .int (nI n), .int (0 : Int32)] [] (zm_s h (137 + 8) (.inl (0, 124, .inl (upd dd (31 * row + n) (zp_dec Q))))) = _ := L
      rw [L', zb183_95]
      have J1' : zm_g (zm_s h (137 + 8) (.inl (0, 124, .inl (upd dd (31 * row + n) (zp_dec Q))))) 137 = .inr (7, zo_c 137 A) := J1.1.1
      have e1'' : zm_call 141 [.ref 137, .int (124 : Int32)] (zm_s h (137 + 8) (.inl (0, 124, .inl (upd dd (31 * row + n) (zp_dec Q))))) = some (none, h2) := e1
      simp only [J1', zq_rc_o, e1'', zq_bv_o, nI_1, zm_nx]
      have eqf : zp_fit s (k + 1) n Q = (if zx_as s (nI n) (zp_dec Q) s.1 0 = true then zp_fit s k (n + 1) (zp_pass Q) else false) := rfl
      rw [d1, eqf]
      cases b with
      | false => rfl
      | true =>
        cases zx_as s (nI n) (zp_dec Q) s.1 0
        · rfl
        · rfl
    · cases t with
      | zero =>
        rw [Nat.add_zero, d5 _ (by omega), pk_us]
        rfl
      | succ t =>
        have := d4 t (by omega)
        rw [show 31 * row + n + (t + 1) = 31 * row + (n + 1) + t by omega]
        exact this
    · rw [d5 q (by omega), pk_un (by omega)]
theorem qm_asn {row : Nat} {dd : Nat → Int32} (hrow : row < 4) (hA : A0 19 = nI s.1) (hm : s.1 ≤ 6) (h144 : zm_g h0 144 = .inl (0, 12, .inl sa)) (hs : ∀ j, j < s.1 → sa (2 * j) = s.2.1 j ∧ sa (2 * j + 1) = zx_sd (s.2.2 j)) (ho : zp_ok P) (hd : P.2.2.2.2 < 1000) (J : zo_J h0 h A0 g0 A g) (hP : zs_P g 0 P) (hdd : zm_g h 145 = .inl (0, 124, .inl dd)) : ∃ h' g' dd', zm_call 183 [.ref 137, .int (nI row)] h = some (some (.int (zx_b (zp_fit s 31 0 P))), h') ∧ zo_J h0 h' A0 g0 A g' ∧ zm_g h' 145 = .inl (0, 124, .inl dd') ∧ (∀ t, t < 31 → dd' (31 * row + t) = zp_dec (zp_run t P)) ∧ (∀ q, (q < 31 * row ∨ 31 * row + 31 ≤ q) → dd' q = dd q) ∧ ∀ q, (q < 124 ∨ 155 ≤ q) → g' q = g q := by
  obtain ⟨h1, g1, c1, c2, c3, c4, c5⟩ := qm_copies (f := 0) (t := 124) (by omega) (by omega) (by omega) J.1
  have c1' : zm_call 160 [.ref 137, .int (0 : Int32), .int (124 : Int32)] h = some (none, h1) := c1
  obtain ⟨h', g', dd', d1, d2, d3, d4, d5, d6⟩ := qm_asn_l hrow hA hm h144 hs 31 0 h1 g1 dd P true .null (by omega) (by omega) ho (zo_Jm J c2 (fun q _ _ => c4 q (by omega)) c5) (zs_Pc hP ho.1 c3) ((c5.2.2 145 (by omega)).trans hdd)
  refine ⟨h', g', dd', ?_, d2, d3, fun t ht => ?_, fun q hq => d5 q (by omega), fun q hq => (d6 q hq).trans (c4 q (by omega))⟩
  · rw [zc183, zm_nx, zb183_0]
    simp only [J.1.1, zq_rc_o, c1', zq_bv_o, zm_nx]
    exact d1
  · have := d4 t ht
    rw [Nat.add_zero] at this
    exact this
end ZT70
