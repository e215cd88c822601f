section ZDGO
variable {h : zm_H} {m : Nat} {A : Nat → Int32} {g : Nat → Int32} {p : Nat} {P : zp_T}
theorem qm_dg_t {x1 x2 x3 : Int32} (hM : zo_M h m A g) (hP : zs_P g 124 P) (hk : zp_ok P) (hd : P.2.2.2.2 < 100000) : ∃ h1 g1, zm_den 4 161 101 [.ref m, .int x1, .int x2, .int x3, .int (zp_reign P)] [] h = zm_den 4 161 44 [.ref m, .int x1, .int x2, .int (x3 + 1), .int (zp_reign P)] [] h1 ∧ zo_M h1 m (upd A 16 (if zp_reign (zp_pass P) = zp_reign P then A 16 else A 16 + 1)) g1 ∧ zs_P g1 124 (zp_pass P) ∧ (∀ q, (q < 124 ∨ 155 ≤ q) → g1 q = g q) ∧ zo_Fr h h1 m ∧ zm_g h1 (m + 6) = zm_g h (m + 6) := by
  obtain ⟨h2, g2, d1, d2, d3, d4, d5⟩ := qm_go hM hP (by omega) hk hd
  have d1' : zm_call 141 [.ref m, .int (124 : Int32)] h = some (none, h2) := d1
  have hr : zm_call 143 [.ref m, .int (124 : Int32)] h2 = some (some (.int (zp_reign (zp_pass P))), h2) := qm_reign (p := 124) (zo_Ms d2) d3 (by omega) hk.1
  refine ⟨zm_s h2 m (.inr (7, zo_c m (upd A 16 (if zp_reign (zp_pass P) = zp_reign P then A 16 else A 16 + 1)))), g2, ?_, zo_sA d2 rfl, d3, fun q hq => d5 q (by omega), zoF_tr (zoF_1 d4) zoF_s0, ?_⟩
  · rw [zb161_101]
    simp only [hM.1, zq_rc_o, d1', zq_bv_o, d2.1, zoi16, hr, zq_bi_o]
    by_cases e : zp_reign (zp_pass P) = zp_reign P
    · simp only [e, not_true_eq_false, if_false, if_true, zm_nx, zb161_123, zb161_128, d2.1, zop16, Int32.add_zero]
    · simp only [e, not_false_eq_true, if_false, if_true, zm_nx, zb161_127, zb161_128, d2.1, zop16]
  · rw [zg_sn (by omega)]
    exact d4.2.2 _ (by omega)
theorem qm_dg_l {x1 : Int32} {N : Nat} (hN : N < 100000) : ∀ (k i : Nat) (h : zm_H) (A g r : Nat → Int32) (v : Value) (P : zp_T), i + k = N → P.2.2.2.2 + k < 100000 → zo_M h m A g → zs_P g 124 P → zp_ok P → zm_g h (m + 6) = .inl (0, 5, .inl r) → ∃ h' A' g' r', zm_den 4 161 44 [.ref m, .int x1, .int (nI N), .int (nI i), v] [] h = some (none, h') ∧ zo_M h' m A' g' ∧ zs_P g' 124 (zp_run k P) ∧ zm_g h' (m + 6) = .inl (0, 5, .inl r') ∧ A' 14 = zp_ruled (-4) k P (A 14) ∧ A' 15 = zp_rulers k P (A 15) ∧ A' 16 = zp_chg k P (A 16) ∧ (∀ j, j < 5 → r' j = zp_ruled (nI j) k P (r j)) ∧ (∀ c, c ≠ 14 → c ≠ 15 → c ≠ 16 → A' c = A c) ∧ (∀ q, (q < 124 ∨ 155 ≤ q) → g' q = g q) ∧ zo_Fr h h' m := by
  have hc : (5 : Nat) < 2 ^ 31 := by decide
  intro k
  induction k with
  | zero =>
    intro i h A g r v P hi hd hM hP hk hr
    refine ⟨h, A, g, r, ?_, hM, hP, hr, rfl, rfl, rfl, fun _ _ => rfl, fun _ _ _ _ => rfl, fun _ _ => rfl, ⟨rfl, rfl, fun _ _ _ _ => rfl⟩⟩
    rw [zb161_44]
    simp only [nI_leB hN (show i < 100000 by omega), show N ≤ i by omega, if_true, zm_nx, zb161_138]
  | succ k ih =>
    intro i h A g r v P hi hd hM hP hk hr
    have hg : zm_call 143 [.ref m, .int (124 : Int32)] h = some (some (.int (zp_reign P)), h) := qm_reign (p := 124) (zo_Ms hM) hP (by omega) hk.1
    by_cases e : zp_reign P = -4
    · have M1 : zo_M (zm_s h m (.inr (7, zo_c m (upd A 14 (A 14 + 1))))) m (upd A 14 (A 14 + 1)) g := zo_sA hM rfl
      obtain ⟨h2, g2, t1, t2, t3, t4, t5, t6⟩ := qm_dg_t (x1 := x1) (x2 := nI N) (x3 := nI i) M1 hP hk (by omega)
      obtain ⟨h', A', g', r', d1, d2, d3, d4, d5, d6, d7, d8, d9, d10, d11⟩ := ih (i + 1) h2 _ g2 r (.int (zp_reign P)) (zp_pass P) (by omega) (by show P.2.2.2.2 + 1 + k < _; omega) t2 t3 (zp_ok_pass hk) (by rw [t6, zg_sn (by omega)]; exact hr)
      refine ⟨h', A', g', r', ?_, d2, d3, d4, ?_, ?_, ?_, fun j hj => ?_, fun c c1 c2 c3 => ?_, fun q hq => (d10 q hq).trans (t4 q hq), zoF_tr (zoF_tr zoF_s0 t5) d11⟩
      · rw [zb161_44]
        simp only [nI_leB hN (show i < 100000 by omega), show ¬ N ≤ i by omega, if_false, zm_nx, zb161_49, hM.1, zq_rc_o, hg, zq_bi_o]
        rw [if_neg (not_not_intro e), zb161_64]
        simp only [hM.1, zoi14, zop14, zm_nx]
        rw [t1, nI_1]
        exact d1
      · rw [d5, pk_un (by decide), pk_us]
        simp only [zp_ruled, e, not_true_eq_false, if_false]
      · rw [d6, pk_un (by decide), pk_un (by decide)]
        simp only [zp_rulers, e, if_true]
      · rw [d7, pk_us, pk_un (by decide)]
        rfl
      · rw [d8 j hj]
        have : ¬ zp_reign P = nI j := by
          rw [e]
          exact fun z => nI_ne4 (show j < 2 ^ 31 by omega) z.symm
        simp only [zp_ruled, this, not_false_eq_true, if_true]
      · rw [d9 c c1 c2 c3, pk_un c3, pk_un c1]
    · rcases zr_reign_spec P.1 P.2.1 with e' | ⟨j, hj, e'⟩
      · exact absurd e' e
      · have e2 : zp_reign P = nI j := e'
        have hj5 : j < 5 := Nat.lt_of_lt_of_le hj hk.1
        have M1 : zo_M (zm_s h m (.inr (7, zo_c m (upd A 15 (A 15 ||| ((1 : Int32) <<< (zp_reign P &&& 31))))))) m (upd A 15 (A 15 ||| ((1 : Int32) <<< (zp_reign P &&& 31)))) g := zo_sA hM rfl
        have M2 : zo_M (zm_s (zm_s h m (.inr (7, zo_c m (upd A 15 (A 15 ||| ((1 : Int32) <<< (zp_reign P &&& 31))))))) (m + 6) (.inl (0, 5, .inl (upd r j (r j + 1))))) m (upd A 15 (A 15 ||| ((1 : Int32) <<< (zp_reign P &&& 31)))) g := zo_s6 M1
        have r1 : zm_g (zm_s h m (.inr (7, zo_c m (upd A 15 (A 15 ||| ((1 : Int32) <<< (zp_reign P &&& 31))))))) (m + 6) = .inl (0, 5, .inl r) := by rw [zg_sn (by omega)]; exact hr
        obtain ⟨h2, g2, t1, t2, t3, t4, t5, t6⟩ := qm_dg_t (x1 := x1) (x2 := nI N) (x3 := nI i) M2 hP hk (by omega)
        obtain ⟨h', A', g', r', d1, d2, d3, d4, d5, d6, d7, d8, d9, d10, d11⟩ := ih (i + 1) h2 _ g2 (upd r j (r j + 1)) (.int (zp_reign P)) (zp_pass P) (by omega) (by show P.2.2.2.2 + 1 + k < _; omega) t2 t3 (zp_ok_pass hk) (by rw [t6, zg_ss])
        refine ⟨h', A', g', r', ?_, d2, d3, d4, ?_, ?_, ?_, fun j' hj' => ?_, fun c c1 c2 c3 => ?_, fun q hq => (d10 q hq).trans (t4 q hq), zoF_tr (zoF_tr (zoF_tr zoF_s0 zoF_s6) t5) d11⟩
        · rw [zb161_44]
          simp only [nI_leB hN (show i < 100000 by omega), show ¬ N ≤ i by omega, if_false, zm_nx, zb161_49, hM.1, zq_rc_o, hg, zq_bi_o]
          rw [if_pos e, zb161_77]
          have q1 : ∀ f : Int32 → zm_O, zq_al (.inl (0, 5, .inl r)) 0 (zp_reign P) f = f (r j) := fun f => by rw [e2]; exact zq_al_o hj5 hc
          have q2 : ∀ (x : Int32) (f : va_E → zm_O), zq_as (.inl (0, 5, .inl r)) 0 (zp_reign P) x f = f (.inl (0, 5, .inl (upd r j x))) := fun x f => by rw [e2]; exact zq_as_o hj5 hc
          simp only [hM.1, zoi15, zop15, zg_ss, zor17, r1, q1, q2, zm_nx]
          rw [t1, nI_1]
          exact d1
        · rw [d5, pk_un (by decide), pk_un (by decide)]
          simp only [zp_ruled, e, not_false_eq_true, if_true]
        · rw [d6, pk_un (by decide), pk_us]
          simp only [zp_rulers, e, if_false]
        · rw [d7, pk_us, pk_un (by decide)]
          rfl
        · rw [d8 j' hj']
          by_cases z : j' = j
          · subst z
            rw [pk_us]
            simp only [zp_ruled, e2, not_true_eq_false, if_false]
          · rw [pk_un z]
            have : ¬ zp_reign P = nI j' := by
              rw [e2, nI_eq (by omega) (by omega)]
              omega
            simp only [zp_ruled, this, not_false_eq_true, if_true]
        · rw [d9 c c1 c2 c3, pk_un c3, pk_un c2]
theorem qm_dg_z {x1 x2 : Int32} : ∀ (k i : Nat) (h : zm_H) (r : Nat → Int32) (v : Value), i + k = 5 → zo_M h m A g → zm_g h (m + 6) = .inl (0, 5, .inl r) → (∀ j, j < i → r j = 0) → ∃ h1 r1, zm_den 4 161 24 [.ref m, .int x1, .int x2, .int (nI i), v] [] h = zm_den 4 161 44 [.ref m, .int x1, .int x2, .int (nI 0), v] [] h1 ∧ zo_M h1 m A g ∧ zm_g h1 (m + 6) = .inl (0, 5, .inl r1) ∧ (∀ j, j < 5 → r1 j = 0) ∧ zo_Fr h h1 m := by
  have hc : (5 : Nat) < 2 ^ 31 := by decide
  intro k
  induction k with
  | zero =>
    intro i h r v hi hM hr hz
    have : i = 5 := by omega
    subst this
    refine ⟨h, r, ?_, hM, hr, hz, ⟨rfl, rfl, fun _ _ _ _ => rfl⟩⟩
    rw [zb161_24]
    simp only [show (5 : Int32) ≤ nI 5 by decide, if_true, zm_nx, zb161_42]
    rfl
  | succ k ih =>
    intro i h r v hi hM hr hz
    obtain ⟨h1, r1, d1, d2, d3, d4, d5⟩ := ih (i + 1) (zm_s h (m + 6) (.inl (0, 5, .inl (upd r i 0)))) (upd r i 0) v (by omega) (zo_s6 hM) zg_ss (fun j hj => by
      by_cases e : j = i
      · subst e
        exact pk_us
      · rw [pk_un e]
        exact hz j (by omega))
    refine ⟨h1, r1, ?_, d2, d3, d4, zoF_tr zoF_s6 d5⟩
    rw [zb161_24]
    have : ¬ (5 : Int32) ≤ nI i := by
      show ¬ nI 5 ≤ nI i
      rw [nI_leI (by omega) (by omega)]
      omega
    simp only [this, if_false, zm_nx, zb161_29, hM.1, zor17, hr, zq_as_o (show i < 5 by omega) hc, nI_1]
    exact d1
theorem qm_dg {f N : Nat} {r : Nat → Int32} (hf : f + 31 ≤ 124 ∨ f = 155) (hM : zo_M h m A g) (hP : zs_P g f P) (hk : zp_ok P) (hd : P.2.2.2.2 + N < 100000) (hr : zm_g h (m + 6) = .inl (0, 5, .inl r)) : ∃ h' A' g' r', zm_call 161 [.ref m, .int (nI f), .int (nI N)] h = some (none, h') ∧ zo_M h' m A' g' ∧ zs_P g' 124 (zp_run N P) ∧ zm_g h' (m + 6) = .inl (0, 5, .inl r') ∧ A' 14 = zp_ruled (-4) N P 0 ∧ A' 15 = zp_rulers N P 0 ∧ A' 16 = zp_chg N P 0 ∧ (∀ j, j < 5 → r' j = zp_ruled (nI j) N P 0) ∧ (∀ c, c ≠ 14 → c ≠ 15 → c ≠ 16 → A' c = A c) ∧ (∀ q, (q < 124 ∨ 155 ≤ q) → g' q = g q) ∧ zo_Fr h h' m := by
  obtain ⟨h1, g1, c1, c2, c3, c4, c5⟩ := qm_copies (f := f) (t := 124) (by omega) (by omega) (by omega) hM
  have c1' : zm_call 160 [.ref m, .int (nI f), .int (124 : Int32)] h = some (none, h1) := c1
  have P1 : zs_P g1 124 P := zs_Pc hP hk.1 c3
  have M2 : zo_M (zm_s h1 m (.inr (7, zo_c m (upd (upd (upd A 14 0) 15 0) 16 0)))) m (upd (upd (upd A 14 0) 15 0) 16 0) g1 := zo_sA c2 rfl
  have r2 : zm_g (zm_s h1 m (.inr (7, zo_c m (upd (upd (upd A 14 0) 15 0) 16 0)))) (m + 6) = .inl (0, 5, .inl r) := by rw [zg_sn (by omega), c5.2.2 _ (by omega)]; exact hr
  obtain ⟨h3, r3, e1, e2, e3, e4, e5⟩ := qm_dg_z (x1 := nI f) (x2 := nI N) 5 0 _ r .null (by omega) M2 r2 (fun j hj => absurd hj (by omega))
  obtain ⟨h', A', g', r', d1, d2, d3, d4, d5, d6, d7, d8, d9, d10, d11⟩ := qm_dg_l (x1 := nI f) (N := N) (by omega) N 0 h3 _ g1 r3 .null P (by omega) hd e2 P1 hk e3
  refine ⟨h', A', g', r', ?_, d2, d3, d4, ?_, ?_, ?_, fun j hj => ?_, fun c k1 k2 k3 => ?_, fun q hq => (d10 q hq).trans (c4 q (by omega)), zoF_tr (zoF_tr (zoF_tr (zoF_1 c5) zoF_s0) e5) d11⟩
  · rw [zc161, zm_nx, zb161_0]
    simp only [hM.1, zq_rc_o, c1', zq_bv_o, c2.1, zop14, zg_ss, zop15, zop16, zs_ss, zm_nx]
    exact e1.trans d1
  · rw [d5, pk_un (by decide), pk_un (by decide), pk_us]
  · rw [d6, pk_un (by decide), pk_us]
  · rw [d7, pk_us]
  · rw [d8 j hj, e4 j hj]
  · rw [d9 c k1 k2 k3, pk_un k3, pk_un k2, pk_un k1]
end ZDGO
