def zx_g (x : Int32) : Nat := x.toBitVec.toNat / 65536 % 32768
theorem zx_gc (x : Int32) : (x.toUInt32 >>> ((16 : Int32).toUInt32 &&& Int32.toUInt32 31)).toInt32 &&& (32767 : Int32) = nI (zx_g x) := by
  rw [pk_and _ 15 (by decide), pk_ushr x 16 16 (by decide)]
  rfl
theorem zx_gr (x : Int32) : (x >>> ((16 : Int32) &&& 31)) &&& (32767 : Int32) = nI (zx_g x) := by
  rw [pk_and _ 15 (by decide)]
  have h1 := pk_shr x ((16 : Int32) &&& 31) 16 (by decide)
  rw [zx_ti, zx_ti x, Int.shiftRight_eq_div_pow] at h1
  have hx : x.toBitVec.toNat < 2 ^ 32 := x.toBitVec.isLt
  have hy : (x >>> ((16 : Int32) &&& 31)).toBitVec.toNat < 2 ^ 32 := (x >>> ((16 : Int32) &&& 31)).toBitVec.isLt
  unfold zx_g
  congr 1
  generalize (x >>> ((16 : Int32) &&& 31)).toBitVec.toNat = y at h1 hy ⊢
  generalize x.toBitVec.toNat = z at h1 hx ⊢
  simp only [Nat.reducePow] at h1 hx hy ⊢
  split at h1 <;> split at h1 <;> omega
def zv_drift (n : Nat) : Nat → Int32 → (Nat → zf_T) → Nat → zf_T
  | 0, _, v => v
  | k + 1, s, v => zv_drift n k (s * 1103515245 + 12345) (zr_pass (nI (zx_g (s * 1103515245 + 12345) % 10)) (nI (zx_g (s * 1103515245 + 12345) / 16 % 9)) n v)
section ZT63
variable {h h0 : zm_H} {Y : zy_T} {A0 g0 A g : Nat → Int32} {P : zp_T}
theorem zx_a10 (x : Int32) : nI (zx_g x) - nI (zx_g x) / (10 : Int32) * (10 : Int32) = nI (zx_g x % 10) := pk_rem (d := 10) (by unfold zx_g; omega) (by decide) (by decide)
theorem zx_a9 (x : Int32) : nI (zx_g x) / (16 : Int32) - nI (zx_g x) / (16 : Int32) / (9 : Int32) * (9 : Int32) = nI (zx_g x / 16 % 9) := by
  have e : nI (zx_g x) / (16 : Int32) = nI (zx_g x / 16) := pk_div (d := 16) (by unfold zx_g; omega) (by decide) (by decide)
  rw [e]
  exact pk_rem (d := 9) (by unfold zx_g; omega) (by decide) (by decide)
theorem qv_rpass {p : Nat} {w d : Int32} (hV : zp_V h p P) : ∃ h', zm_call 27 [.ref (p + 1), .int w, .int d] h = some (none, h') ∧ zp_V h' p (P.1, zr_pass w d P.1 P.2.1, P.2.2) ∧ zm_Fr h h' p (p + 10) := by
  obtain ⟨ad, Q, h1, h2⟩ := hV
  obtain ⟨d1, d2, c0, d3, d4⟩ := id h1
  obtain ⟨h', b1, b2, b3⟩ := qc_rpass (w := w) (d := d) c0
  refine ⟨h', b1, ⟨ad, (Q.1, zr_pass w d Q.1 Q.2.1, Q.2.2), ⟨d1, by rw [b3.2.2 p (by omega)]; exact d2, b2, za_keep d3 (b3.2.2 _ (by omega)), za_keep d4 (b3.2.2 _ (by omega))⟩, h2.1, fun k hk => ?_, h2.2.2⟩, zFr_mn b3 (by omega) (by omega)⟩
  have hk' : k < Q.1 := hk
  show (if k < Q.1 then zf_pass w d (Q.2.1 k) else Q.2.1 k) = (if k < P.1 then zf_pass w d (P.2.1 k) else P.2.1 k)
  rw [← h2.1, if_pos hk', if_pos hk', h2.2.1 k hk']
theorem zp_ok_rp {a b : Nat} (ho : zp_ok P) (ha : a < 10) (hb : b < 9) (D : Nat) : zp_ok (P.1, zr_pass (nI a) (nI b) P.1 P.2.1, P.2.2.1, P.2.2.2.1, D) := by
  refine ⟨ho.1, fun i hi => ?_, ho.2.2⟩
  show zf_ok (if i < P.1 then zf_pass (nI a) (nI b) (P.2.1 i) else P.2.1 i)
  rw [if_pos (show i < P.1 from hi)]
  exact zf_ok_pass (ho.2.1 i hi) ha hb
theorem qc_drift_l {x1 x3 : Int32} {N : Nat} (hN : N ≤ 60) : ∀ (k t : Nat) (s : Int32) (u : Value) (h : zm_H) (v : Nat → zf_T), t + k = N → zk_K h Y → zp_V h 11 (Y.1.1, v, Y.1.2.2) → ∃ h', zm_den 4 97 54 [.ref 0, .int x1, .int (nI N), .int x3, .int s, .int (nI t), u] [] h = some (some (.int (if x3 = 0 then zr_bits Y.1.1 (zv_drift Y.1.1 k s v) else zr_sum Y.1.1 (zv_drift Y.1.1 k s v))), h') ∧ zk_K h' Y ∧ zm_Fr h h' 11 21 := by
  have h10 : ¬ (1 : Int32) = 0 := by decide
  intro k
  induction k with
  | zero =>
    intro t s u h v ht hK hV
    obtain ⟨ad, Q, -, -, v1, v2, v3, v4⟩ := zV_row hV
    have bi : zm_call 24 [.ref (11 + 1)] h = some (some (.int (zr_bits Y.1.1 v)), h) := qv_bits hV
    have su : zm_call 26 [.ref (11 + 1)] h = some (some (.int (zr_sum Y.1.1 v)), h) := qv_sum hV
    refine ⟨h, ?_, hK, zFr_rf _ _ _⟩
    rw [zb97_54]
    simp only [nI_leB (show N < 100000 by omega) (show t < 100000 by omega), show N ≤ t by omega, if_true, zm_nx]
    rw [zb97_111, zv_drift]
    by_cases z : x3 = 0
    · simp only [z, zB97, hK.1, zkr1, v1, zgr_1_0, v2, bi, zm_nx, zq_rc_o, zq_bi_o, zq_bl_o, zq_bv_o, not_true_eq_false, not_false_eq_true, if_true, if_false, h10, ite_self]
    · simp only [z, zB97, hK.1, zkr1, v1, zgr_1_0, v2, su, zm_nx, zq_rc_o, zq_bi_o, zq_bl_o, zq_bv_o, not_true_eq_false, not_false_eq_true, if_true, if_false, h10, ite_self]
  | succ k ih =>
    intro t s u h v ht hK hV
    obtain ⟨ad, Q, -, -, v1, v2, v3, v4⟩ := zV_row hV
    obtain ⟨h1, b1, b2, b3⟩ := qv_rpass (w := nI (zx_g (s * 1103515245 + 12345) % 10)) (d := nI (zx_g (s * 1103515245 + 12345) / 16 % 9)) hV
    obtain ⟨h', e1, e2, e3⟩ := ih (t + 1) (s * 1103515245 + 12345) (.int (nI (zx_g (s * 1103515245 + 12345)))) h1 _ (by omega) (zk_tr hK b2 b3) b2
    refine ⟨h', ?_, e2, zFr_tr b3 e3⟩
    rw [zb97_54]
    simp only [nI_leB (show N < 100000 by omega) (show t < 100000 by omega), show ¬ N ≤ t by omega, if_false, zm_nx]
    rw [zb97_60, zv_drift]
    simp only [hK.1, zkr1, v1, zgr_1_0, v2, zq_rc_o, zx_gc, zx_a10, zx_a9, b1, zq_bv_o, nI_1, zm_nx]
    exact e1
theorem qm_drift_l {x1 x3 : Int32} {N : Nat} (hN : N ≤ 60) : ∀ (k t : Nat) (s : Int32) (u : Value) (h : zm_H) (g : Nat → Int32) (v : Nat → zf_T) (D : Nat), t + k = N → zp_ok (P.1, v, P.2.2.1, P.2.2.2.1, D) → zo_J h0 h A0 g0 A g → zs_P g 124 (P.1, v, P.2.2.1, P.2.2.2.1, D) → ∃ h' g', zm_den 3 189 50 [.ref 137, .int x1, .int (nI N), .int x3, .int s, .int (nI t), u] [] h = some (some (.int (if x3 = 0 then zr_bits P.1 (zv_drift P.1 k s v) else zr_sum P.1 (zv_drift P.1 k s v))), h') ∧ zo_J h0 h' A0 g0 A g' ∧ ∀ q, (q < 124 ∨ 155 ≤ q) → g' q = g q := by
  have h10 : ¬ (1 : Int32) = 0 := by decide
  intro k
  induction k with
  | zero =>
    intro t s u h g v D ht ho J hP
    have bi : zm_call 142 [.ref 137, .int (124 : Int32)] h = some (some (.int (zr_bits P.1 v)), h) := qm_bits (p := 124) (zo_Ms J.1) hP (by omega) ho.1
    have su : zm_call 145 [.ref 137, .int (124 : Int32)] h = some (some (.int (zr_sum P.1 v)), h) := qm_sum (p := 124) (zo_Ms J.1) hP (by omega) ho.1
    refine ⟨h, g, ?_, J, fun _ _ => rfl⟩
    rw [zb189_50]
    simp only [nI_leB (show N < 100000 by omega) (show t < 100000 by omega), show N ≤ t by omega, if_true, zm_nx]
    rw [zb189_105, zv_drift]
    by_cases z : x3 = 0
    · simp only [z, zB189, J.1.1, bi, zm_nx, zq_rc_o, zq_bi_o, zq_bl_o, zq_bv_o, not_true_eq_false, not_false_eq_true, if_true, if_false, h10, ite_self]
    · simp only [z, zB189, J.1.1, su, zm_nx, zq_rc_o, zq_bi_o, zq_bl_o, zq_bv_o, not_true_eq_false, not_false_eq_true, if_true, if_false, h10, ite_self]
  | succ k ih =>
    intro t s u h g v D ht ho J hP
    obtain ⟨h1, g1, b1, b2, b3, b4, b5⟩ := qm_day (p := 124) (a := zx_g (s * 1103515245 + 12345) % 10) (b := zx_g (s * 1103515245 + 12345) / 16 % 9) (zo_Ms J.1) hP (by omega) ho (by omega) (by omega)
    have b1' : zm_call 140 [.ref 137, .int (124 : Int32), .int (nI (zx_g (s * 1103515245 + 12345) % 10)), .int (nI (zx_g (s * 1103515245 + 12345) / 16 % 9) - 4)] h = some (none, h1) := b1
    have J1 := zo_Jm J (zs_Mo b2 rfl) (fun q _ _ => b5 q (by omega)) b4
    obtain ⟨h', g', e1, e2, e3⟩ := ih (t + 1) (s * 1103515245 + 12345) (.int (nI (zx_g (s * 1103515245 + 12345)))) h1 g1 _ (D + 1) (by omega) (zp_ok_rp ho (by omega) (by omega) (D + 1)) J1 b3
    refine ⟨h', g', ?_, e2, fun q hq => (e3 q hq).trans (b5 q (by omega))⟩
    rw [zb189_50]
    simp only [nI_leB (show N < 100000 by omega) (show t < 100000 by omega), show ¬ N ≤ t by omega, if_false, zm_nx]
    rw [zb189_56, zv_drift]
    simp only [J.1.1, zq_rc_o, zx_gr, zx_a10, zx_a9, b1', zq_bv_o, nI_1, zm_nx]
    exact e1
theorem zt_drift (x y z : Int32) (hK : zk_K h Y) (hO : zo_K h Y) : zt_R 97 189 [.int x, .int y, .int z] h := by
  have k0 := hK.1
  obtain ⟨kV, kO, kd⟩ := hK.2.1
  obtain ⟨ad, Q, -, -, v1, v2, v3, v4⟩ := zV_row kV
  obtain ⟨A, g, a1, a2, a3, -⟩ := id hO
  have h10 : ¬ (1 : Int32) = 0 := by decide
  have m0 := fun h : zm_H => qm_in (h := h) y 1 60 (1 : Int64) (60 : Int64) (by decide) (by decide)
  have c1 := qc_within (h := h) z 1
  have m1 := fun h : zm_H => qm_in (h := h) z 0 1 (0 : Int64) (1 : Int64) (by decide) (by decide)
  have e15 : ∀ f : Int32 → zm_O, zq_al (.inl (0, 186, .inl g)) 0 (15 : Int32) f = f (nI Y.1.1) := fun f => zy_al (j := 15) rfl (by decide) (by decide) a2.1
  rcases zw_1_c y (u := 60) (by decide) with ⟨e1, e2⟩ | ⟨e0, e1, e2⟩ | ⟨N, h1N, hN, ex, e0, e1, e2⟩
  · have e' : zw_in y 1 60 = 0 := e2
    refine zt_ro (r := -1) hK hO ?_ ?_
    · simp only [zc97, zB97, e1, zm_nx, zq_rc_o, zq_bi_o, zq_bl_o, zq_bv_o, not_true_eq_false, not_false_eq_true, if_true, if_false, h10, ite_self]
    · simp only [zc189, zB189, m0, e', zm_nx, zq_rc_o, zq_bi_o, zq_bl_o, zq_bv_o, not_true_eq_false, not_false_eq_true, if_true, if_false, h10, ite_self]
  · have e' : zw_in y 1 60 = 0 := e2
    have e1' : (60 : Int32) < y := e1
    refine zt_ro (r := -1) hK hO ?_ ?_
    · simp only [zc97, zB97, e0, e1', zm_nx, zq_rc_o, zq_bi_o, zq_bl_o, zq_bv_o, not_true_eq_false, not_false_eq_true, if_true, if_false, h10, ite_self]
    · simp only [zc189, zB189, m0, e', zm_nx, zq_rc_o, zq_bi_o, zq_bl_o, zq_bv_o, not_true_eq_false, not_false_eq_true, if_true, if_false, h10, ite_self]
  · have e' : zw_in y 1 60 = 1 := e2
    have e1' : ¬ (60 : Int32) < y := e1
    rcases zw_in_c z (u := 1) (by decide) with f | ⟨w, hw, ez, f⟩
    · have f' : zw_in z 0 1 = 0 := f
      refine zt_ro (r := -1) hK hO ?_ ?_
      · simp only [zc97, zB97, e0, e1', c1, f', zm_nx, zq_rc_o, zq_bi_o, zq_bl_o, zq_bv_o, not_true_eq_false, not_false_eq_true, if_true, if_false, h10, ite_self]
      · simp only [zc189, zB189, m0, e', m1, f', zm_nx, zq_rc_o, zq_bi_o, zq_bl_o, zq_bv_o, not_true_eq_false, not_false_eq_true, if_true, if_false, h10, ite_self]
    · have f' : zw_in z 0 1 = 1 := f
      by_cases n0 : Y.1.1 = 0
      · have n0' : nI Y.1.1 = (0 : Int32) := by rw [n0]; rfl
        refine zt_ro (r := -2) hK hO ?_ ?_
        · simp only [zc97, zB97, e0, e1', c1, f', k0, zkr0, v1, zgr_1_0, v2, zgi_2_1, n0', zm_nx, zq_rc_o, zq_bi_o, zq_bl_o, zq_bv_o, not_true_eq_false, not_false_eq_true, if_true, if_false, h10, ite_self]
        · simp only [zc189, zB189, m0, e', m1, f', a1.1, zor0, a1.2, e15, n0', zm_nx, zq_rc_o, zq_bi_o, zq_bl_o, zq_bv_o, not_true_eq_false, not_false_eq_true, if_true, if_false, h10, ite_self]
      · have n0' : ¬ nI Y.1.1 = (0 : Int32) := nI_ne0 (by omega) (by omega)
        obtain ⟨h1, t1, t2, t3, t4⟩ := zk_trial hK
        obtain ⟨ad0, Q0, -, -, u1, u2, u3, u4⟩ := zV_row hK.2.2.1.1.choose_spec
        obtain ⟨h3, b1, b2, b3⟩ := qc_drift_l (x1 := x) (x3 := z) hN N 0 x .null h1 Y.1.2.1 (by omega) t3 t2
        have F3 : zm_Fr h h3 11 21 := zFr_tr t4 b3
        rw [← ex] at b1
        refine zt_mk hO (r := if z = 0 then zr_bits Y.1.1 (zv_drift Y.1.1 N x Y.1.2.1) else zr_sum Y.1.1 (zv_drift Y.1.1 N x Y.1.2.1)) ?_ b2 (zFr_mn F3 (by omega) (by omega)) fun O1 => ?_
        · rw [zc97, zm_nx, zb97_0, if_neg e0, zm_nx, zb97_5, if_neg e1', zm_nx, zb97_11]
          simp only [c1, f', zq_bi_o, h10, not_false_eq_true, if_true, zm_nx]
          rw [zb97_21]
          simp only [k0, zkr0, v1, zgr_1_0, v2, zgi_2_1, n0', not_false_eq_true, if_true, zm_nx]
          rw [zb97_37]
          simp only [k0, zkr1, zkr0, u1, zq_rc_o, t1, zq_bv_o, zm_nx]
          exact b1
        obtain ⟨A, g, J, a2⟩ := zo_J0 O1
        have e15 : ∀ f : Int32 → zm_O, zq_al (.inl (0, 186, .inl g)) 0 (15 : Int32) f = f (nI Y.1.1) := fun f => zy_al (j := 15) rfl (by decide) (by decide) a2.1
        obtain ⟨h4, g4, c1, c2, c3, c4⟩ := zo_Jc J a2 v3 (t := 124) (by omega)
        have c1' : zm_call 160 [.ref 137, .int (0 : Int32), .int (124 : Int32)] h3 = some (none, h4) := c1
        obtain ⟨h5, g5, q1, q2, q3⟩ := qm_drift_l (P := Y.1) (x1 := x) (x3 := z) hN N 0 x .null h4 g4 Y.1.2.1 Y.1.2.2.2.2 (by omega) kO c2 c3
        rw [← ex] at q1
        have R := zo_Je (P := Y.1) hK.2.2.2.2.2.1 O1 J.1 q2 (zs_Pk a2 v3 fun q _ _ => by rw [q3 q (by omega), c4 q (by omega)])
        refine ⟨h5, ?_, R.1, R.2⟩
        rw [zc189, zm_nx, zb189_0]
        simp only [m0, e', zq_bi_o, h10, if_false, zm_nx]
        rw [zb189_12]
        simp only [m1, f', zq_bi_o, h10, not_false_eq_true, if_true, zm_nx]
        rw [zb189_24]
        simp only [J.1.1, zor0, J.1.2, e15, n0', not_false_eq_true, if_true, zm_nx]
        rw [zb189_37]
        simp only [J.1.1, zq_rc_o, c1', zq_bv_o, zm_nx]
        exact q1
end ZT63
