def zp_ex (P : zp_T) (i j : Nat) : zp_T := (P.1, (fun k => if k = j then P.2.1 i else if k = i then P.2.1 j else P.2.1 k), P.2.2)
def zp_swi (N : Nat) (P : zp_T) (i : Nat) : Nat → Nat → Int32 → Int32 → Int32 × Int32
  | 0, _, m, b => (m, b)
  | k + 1, j, m, b => if m ≤ zp_chg N (zp_ex P i j) 0 then zp_swi N P i k (j + 1) m b else zp_swi N P i k (j + 1) (zp_chg N (zp_ex P i j) 0) (10 * nI i + nI j)
def zp_swo (N : Nat) (P : zp_T) : Nat → Nat → Int32 → Int32 → Int32 × Int32
  | 0, _, m, b => (m, b)
  | k + 1, i, m, b => zp_swo N P k (i + 1) (zp_swi N P i k (i + 1) m b).1 (zp_swi N P i k (i + 1) m b).2
section ZT61
variable {h h0 : zm_H} {Y : zy_T} {A0 g0 A g : Nat → Int32} {i : Nat} {P : zp_T}
theorem zp_ok_ex {i j : Nat} (ho : zp_ok P) (hi : i < P.1) (hj : j < P.1) : zp_ok (zp_ex P i j) := by
  refine ⟨ho.1, fun k hk => ?_, ho.2.2⟩
  show zf_ok (if k = j then P.2.1 i else if k = i then P.2.1 j else P.2.1 k)
  by_cases z : k = j
  · rw [if_pos z]
    exact ho.2.1 i hi
  · rw [if_neg z]
    by_cases w : k = i
    · rw [if_pos w]
      exact ho.2.1 j hj
    · rw [if_neg w]
      exact ho.2.1 k hk
theorem zV_ex {p i j : Nat} (hV : zp_V h p P) (hi : i < P.1) (hj : j < P.1) (hij : i ≠ j) : ∃ h', zm_call 21 [.ref (p + 1), .int (nI i), .int (nI j)] h = some (none, h') ∧ zp_V h' p (zp_ex P i j) ∧ zm_Fr h h' (p + 1) (p + 8) := by
  obtain ⟨ad, Q, h1, h2⟩ := hV
  obtain ⟨d1, d2, c0, d3, d4⟩ := id h1
  have c1 := c0.1
  have e1 := h2.1
  obtain ⟨h', b1, b2, b3⟩ := qc_exch (i := i) (j := j) c0 (by omega) (by omega) hij
  refine ⟨h', b1, ⟨_, zp_ex Q i j, ⟨d1, by rw [b3.2.2 p (by omega)]; exact d2, b2, za_keep d3 (b3.2.2 _ (by omega)), za_keep d4 (b3.2.2 _ (by omega))⟩, h2.1, fun k hk => ?_, h2.2.2⟩, b3⟩
  have hk' : k < Q.1 := hk
  show (if k = j then Q.2.1 i else if k = i then Q.2.1 j else Q.2.1 k) = (if k = j then P.2.1 i else if k = i then P.2.1 j else P.2.1 k)
  by_cases z : k = j
  · rw [if_pos z, if_pos z]
    exact h2.2.1 i (by omega)
  · rw [if_neg z, if_neg z]
    by_cases w : k = i
    · rw [if_pos w, if_pos w]
      exact h2.2.1 j (by omega)
    · rw [if_neg w, if_neg w]
      exact h2.2.1 k hk'
theorem qc_swi_l {x2 : Int32} {N : Nat} (hN : N ≤ 60) : ∀ (k j : Nat) (m b : Int32) (u : Value) (h : zm_H), i < j → j + k = Y.1.1 → zk_K h Y → ∃ h' u', zm_den 6 84 69 [.ref 0, .int (nI N), .int x2, .int m, .int b, .int (nI i), .int (nI j), u] [] h = zm_den 6 84 48 [.ref 0, .int (nI N), .int x2, .int (zp_swi N Y.1 i k j m b).1, .int (zp_swi N Y.1 i k j m b).2, .int (nI (i + 1)), .int (nI Y.1.1), u'] [] h' ∧ zk_K h' Y ∧ zm_Fr h h' 11 21 := by
  have h10 : ¬ (1 : Int32) = 0 := by decide
  intro k
  induction k with
  | zero =>
    intro j m b u h hij hj hK
    obtain ⟨ad, Q, -, -, v1, v2, v3, v4⟩ := zV_row hK.2.1.1
    have : j = Y.1.1 := by omega
    subst this
    refine ⟨h, u, ?_, hK, zFr_rf _ _ _⟩
    rw [zb84_69]
    simp only [hK.1, zkr0, v1, zgr_1_0, v2, zgi_2_1, nI_le5 v3 v3, Nat.le_refl, if_true, zm_nx, zb84_144, nI_1, zp_swi]
  | succ k ih =>
    intro j m b u h hij hj hK
    have k0 := hK.1
    obtain ⟨kV, kO, kd⟩ := hK.2.1
    obtain ⟨ad, Q, -, -, v1, v2, v3, v4⟩ := zV_row kV
    obtain ⟨h1, t1, t2, t3, t4⟩ := zk_trial hK
    obtain ⟨ad0, Q0, -, -, u1, u2, u3, u4⟩ := zV_row hK.2.2.1.1.choose_spec
    obtain ⟨ad1, Q1, -, -, y1, y2, y3, y4⟩ := zV_row t2
    obtain ⟨h2, x1, V2, x3⟩ := zV_ex (i := i) (j := j) t2 (by omega) (by omega) (by omega)
    have F2 : zm_Fr h1 h2 11 21 := zFr_mn x3 (by omega) (by omega)
    have K2 := zk_tr t3 V2 F2
    obtain ⟨h3, r1, r2, r3⟩ := qv_chg (N := N) V2 (by show Y.1.2.2.2.2 + N < _; omega)
    have K3 := zk_tr K2 r2 r3
    obtain ⟨ad2, Q2, -, -, w1, -⟩ := zV_row V2
    obtain ⟨T, eT⟩ : ∃ T, T = zp_chg N (zp_ex Y.1 i j) 0 := ⟨_, rfl⟩
    rw [← eT] at r1
    have E : zm_den 6 84 69 [.ref 0, .int (nI N), .int x2, .int m, .int b, .int (nI i), .int (nI j), u] [] h = (if m ≤ T then zm_den 6 84 138 [.ref 0, .int (nI N), .int x2, .int m, .int b, .int (nI i), .int (nI j), .int T] [] h3 else zm_den 6 84 125 [.ref 0, .int (nI N), .int x2, .int m, .int b, .int (nI i), .int (nI j), .int T] [] h3) := by
      rw [zb84_69]
      simp only [k0, zkr0, v1, zgr_1_0, v2, zgi_2_1, nI_le5 v3 (show j ≤ 5 by omega), show ¬ Y.1.1 ≤ j by omega, if_false, zm_nx]
      rw [zb84_84]
      simp only [k0, zkr1, zkr0, u1, zq_rc_o, t1, zq_bv_o, t3.1, y1, zgr_1_0, y2, x1, K2.1, w1, r1, zq_bi_o, zm_nx]
    rw [E, zp_swi, ← eT]
    have F3 : zm_Fr h h3 11 21 := zFr_tr t4 (zFr_tr F2 r3)
    by_cases y : m ≤ T
    · obtain ⟨h', u', e1, e2, e3⟩ := ih (j + 1) m b (.int T) h3 (by omega) (by omega) K3
      refine ⟨h', u', ?_, e2, zFr_tr F3 e3⟩
      rw [if_pos y, zb84_138, zm_nx, nI_1, if_pos y]
      exact e1
    · obtain ⟨h', u', e1, e2, e3⟩ := ih (j + 1) T (10 * nI i + nI j) (.int T) h3 (by omega) (by omega) K3
      refine ⟨h', u', ?_, e2, zFr_tr F3 e3⟩
      rw [if_neg y, zb84_125, zm_nx, zb84_138, zm_nx, nI_1, if_neg y]
      exact e1
theorem qc_swo_l {x2 : Int32} {N : Nat} (hN : N ≤ 60) : ∀ (k i : Nat) (m b : Int32) (u w : Value) (h : zm_H), i + k = Y.1.1 → zk_K h Y → ∃ h', zm_den 6 84 48 [.ref 0, .int (nI N), .int x2, .int m, .int b, .int (nI i), u, w] [] h = some (some (.int (zx_ch (zp_swo N Y.1 k i m b).2 (zp_swo N Y.1 k i m b).1 x2)), h') ∧ zk_K h' Y ∧ zm_Fr h h' 11 21 := by
  intro k
  induction k with
  | zero =>
    intro i m b u w h hi hK
    obtain ⟨ad, Q, -, -, v1, v2, v3, v4⟩ := zV_row hK.2.1.1
    refine ⟨h, ?_, hK, zFr_rf _ _ _⟩
    rw [zb84_48]
    simp only [hK.1, zkr0, v1, zgr_1_0, v2, zgi_2_1, nI_le5 v3 (show i ≤ 5 by omega), show Y.1.1 ≤ i by omega, if_true, zm_nx, zb84_150, qc_chosen, zq_bi_o, zp_swo]
  | succ k ih =>
    intro i m b u w h hi hK
    obtain ⟨ad, Q, -, -, v1, v2, v3, v4⟩ := zV_row hK.2.1.1
    obtain ⟨h1, u1, e1, e2, e3⟩ := qc_swi_l (i := i) (x2 := x2) hN k (i + 1) m b w h (by omega) (by omega) hK
    obtain ⟨h2, d1, d2, d3⟩ := ih (i + 1) (zp_swi N Y.1 i k (i + 1) m b).1 (zp_swi N Y.1 i k (i + 1) m b).2 (.int (nI Y.1.1)) u1 h1 (by omega) e2
    refine ⟨h2, ?_, d2, zFr_tr e3 d3⟩
    rw [zb84_48]
    simp only [hK.1, zkr0, v1, zgr_1_0, v2, zgi_2_1, nI_le5 v3 (show i ≤ 5 by omega), show ¬ Y.1.1 ≤ i by omega, if_false, zm_nx]
    rw [zb84_63, zm_nx, nI_1, e1]
    exact d1
theorem zx_uu {g : Nat → Int32} {a b : Nat} {x y : Int32} (q : Nat) : upd (upd g a x) b y q = if q = b then y else if q = a then x else g q := rfl
theorem qm_ex_l {x1 x2 x3 x4 : Int32} {j : Nat} (hij : i ≠ j) (hi5 : i < 5) (hj5 : j < 5) (J : zo_J h0 h A0 g0 A g) : ∃ h' g', zm_den 5 172 83 [.ref 137, .int x1, .int x2, .int x3, .int x4, .int (nI i), .int (nI j), .int (0 : Int32)] [] h = zm_den 5 172 144 [.ref 137, .int x1, .int x2, .int x3, .int x4, .int (nI i), .int (nI j), .int (nI 15)] [] h' ∧ zo_J h0 h' A0 g0 A g' ∧ (∀ c, (c = 0 ∨ c = 5 ∨ c = 10) → g' (155 + c + i) = g (c + j) ∧ g' (155 + c + j) = g (c + i)) ∧ ∀ q, (∀ c, (c = 0 ∨ c = 5 ∨ c = 10) → q ≠ 155 + c + i ∧ q ≠ 155 + c + j) → g' q = g q := by
  have step : ∀ (c : Nat) (h : zm_H) (g : Nat → Int32), c + 5 ≤ 15 → zo_J h0 h A0 g0 A g → ∃ h' g', zm_den 5 172 83 [.ref 137, .int x1, .int x2, .int x3, .int x4, .int (nI i), .int (nI j), .int (nI c)] [] h = zm_den 5 172 83 [.ref 137, .int x1, .int x2, .int x3, .int x4, .int (nI i), .int (nI j), .int (nI (c + 5))] [] h' ∧ zo_J h0 h' A0 g0 A g' ∧ g' (155 + c + i) = g (c + j) ∧ g' (155 + c + j) = g (c + i) ∧ ∀ q, q ≠ 155 + c + i → q ≠ 155 + c + j → g' q = g q := by
    intro c h g hc J
    have hlt : ¬ (15 : Int32) ≤ nI c := nI_ge (a := c) (b := 15) (by omega) (by decide)
    have l1 : ∀ (g : Nat → Int32) (o : Int32 → zm_O), zq_al (.inl (0, 186, .inl g)) 0 (nI c + nI j) o = o (g (c + j)) := fun g o => by
      rw [nI_add]
      exact zq_al_o (by omega) (by decide)
    have l2 : ∀ (g : Nat → Int32) (o : Int32 → zm_O), zq_al (.inl (0, 186, .inl g)) 0 (nI c + nI i) o = o (g (c + i)) := fun g o => by
      rw [nI_add]
      exact zq_al_o (by omega) (by decide)
    have s1 : ∀ (g : Nat → Int32) (x : Int32) (o : va_E → zm_O), zq_as (.inl (0, 186, .inl g)) 0 ((155 : Int32) + nI c + nI i) x o = o (.inl (0, 186, .inl (upd g (155 + c + i) x))) := fun g x o => by
      rw [show (155 : Int32) + nI c + nI i = nI (155 + c + i) from by rw [show (155 : Int32) = nI 155 from rfl, nI_add, nI_add]]
      exact zq_as_o (by omega) (by decide)
    have s2 : ∀ (g : Nat → Int32) (x : Int32) (o : va_E → zm_O), zq_as (.inl (0, 186, .inl g)) 0 ((155 : Int32) + nI c + nI j) x o = o (.inl (0, 186, .inl (upd g (155 + c + j) x))) := fun g x o => by
      rw [show (155 : Int32) + nI c + nI j = nI (155 + c + j) from by rw [show (155 : Int32) = nI 155 from rfl, nI_add, nI_add]]
      exact zq_as_o (by omega) (by decide)
    have u : upd g (155 + c + i) (g (c + j)) (c + i) = g (c + i) := pk_un (by omega)
    have n5 : nI c + (5 : Int32) = nI (c + 5) := nI_add c 5
    refine ⟨_, upd (upd g (155 + c + i) (g (c + j))) (155 + c + j) (g (c + i)), ?_, zo_Js J fun q _ _ => by rw [pk_un (by omega), pk_un (by omega)], by rw [pk_un (by omega), pk_us], pk_us, fun q q1 q2 => by rw [pk_un q2, pk_un q1]⟩
    rw [zb172_83, if_neg hlt, zm_nx, zb172_90]
    simp only [J.1.1, zor0, J.1.2, l1, s1, zg_sn (show 137 ≠ 137 + 1 by decide), zg_ss, l2, u, s2, zs_ss, n5, zm_nx]
  obtain ⟨h1, g1, e1, J1, a1, b1, k1⟩ := step 0 h g (by omega) J
  obtain ⟨h2, g2, e2, J2, a2, b2, k2⟩ := step 5 h1 g1 (by omega) J1
  obtain ⟨h3, g3, e3, J3, a3, b3, k3⟩ := step 10 h2 g2 (by omega) J2
  refine ⟨h3, g3, ?_, J3, fun c hc => ?_, fun q hq => ?_⟩
  · have e0 : zm_den 5 172 83 [.ref 137, .int x1, .int x2, .int x3, .int x4, .int (nI i), .int (nI j), .int (0 : Int32)] [] h = _ := e1
    rw [e0, e2, e3, zb172_83, if_pos (by decide), zm_nx]
  · rcases hc with rfl | rfl | rfl
    · rw [k3 _ (by omega) (by omega), k2 _ (by omega) (by omega), k3 _ (by omega) (by omega), k2 _ (by omega) (by omega)]
      exact ⟨a1, b1⟩
    · rw [k3 _ (by omega) (by omega), a2, k1 _ (by omega) (by omega), k3 _ (by omega) (by omega), b2, k1 _ (by omega) (by omega)]
      exact ⟨rfl, rfl⟩
    · rw [a3, k2 _ (by omega) (by omega), k1 _ (by omega) (by omega), b3, k2 _ (by omega) (by omega), k1 _ (by omega) (by omega)]
      exact ⟨rfl, rfl⟩
  · have q0 := hq 0 (Or.inl rfl)
    have q5 := hq 5 (Or.inr (Or.inl rfl))
    have q10 := hq 10 (Or.inr (Or.inr rfl))
    rw [k3 q q10.1 q10.2, k2 q q5.1 q5.2, k1 q q0.1 q0.2]
end ZT61
