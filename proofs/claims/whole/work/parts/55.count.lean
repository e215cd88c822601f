def zx_sum (w : Nat → Int32) : Nat → Nat → Int32 → Int32
  | 0, _, a => a
  | k + 1, i, a => zx_sum w k (i + 1) (a + w i)
section ZT55
variable {h : zm_H} {Y : zy_T}
theorem qc_asum_l {a : Nat} {g w : Nat → Int32} (hg : zm_g h a = .inl (0, 7, .inl g)) (hw : ∀ j, j < 7 → g j = w j) : ∀ (k i : Nat) (s : Int32) (v : Value), i + k = 7 → zm_den 1 107 10 [.ref a, .int s, .ref a, .int (nI 7), .int (nI i), v] [] h = some (some (.int (zx_sum w k i s)), h) := by
  intro k
  induction k with
  | zero =>
    intro i s v hi
    have : i = 7 := by omega
    subst this
    rw [zb107_10, if_pos (by decide), zm_nx, zb107_33]
    rfl
  | succ k ih =>
    intro i s v hi
    have n7 : ¬ nI 7 ≤ nI i := nI_ge (b := 7) (by omega) (by decide)
    rw [zb107_10, if_neg n7, zm_nx, zb107_16]
    simp only [hg, zq_al_o (show i < 7 by omega) (show (7 : Nat) < 2 ^ 31 by decide), hw i (by omega), zm_nx, nI_1]
    exact ih (i + 1) _ _ (by omega)
theorem qc_asum {a : Nat} {w : Nat → Int32} (hW : za_W h a 7 w) : zm_call 107 [.ref a] h = some (some (.int (zx_sum w 7 0 0)), h) := by
  obtain ⟨g, hg, hw⟩ := hW
  rw [zc107, zm_nx, zb107_0, hg, zq_ln_i (by decide), zm_nx]
  exact qc_asum_l hg hw 7 0 0 .null (by omega)
theorem qm_count_l {A g : Nat → Int32} {x : Int32} {P : zp_T} (a1 : zo_M h 137 A g) (a2 : zs_P g 0 P) : ∀ (k i : Nat) (s t : Int32), i + k = 7 → zm_den 1 196 7 [.ref 137, .int x, .int s, .int t, .int (nI i)] [] h = zm_den 1 196 50 [.ref 137, .int x, .int (zx_sum P.2.2.1 k i s), .int (zx_sum P.2.2.2.1 k i t), .int (nI 7)] [] h := by
  intro k
  induction k with
  | zero =>
    intro i s t hi
    have : i = 7 := by omega
    subst this
    rw [zb196_7, if_pos (by decide), zm_nx]
    rfl
  | succ k ih =>
    intro i s t hi
    have n7 : ¬ (7 : Int32) ≤ nI i := nI_ge (b := 7) (by omega) (by decide)
    have q1 : ∀ f : Int32 → zm_O, zq_al (.inl (0, 186, .inl g)) 0 ((16 : Int32) + nI i) f = f (P.2.2.1 i - 1) := fun f => zy_al (j := 0 + 16 + i) (by rw [Nat.zero_add]; exact nI_add 16 i) (by omega) (by decide) (a2.2.2.1 i (by omega)).1
    have q2 : ∀ f : Int32 → zm_O, zq_al (.inl (0, 186, .inl g)) 0 ((23 : Int32) + nI i) f = f (P.2.2.2.1 i - 4) := fun f => zy_al (j := 0 + 23 + i) (by rw [Nat.zero_add]; exact nI_add 23 i) (by omega) (by decide) (a2.2.2.1 i (by omega)).2
    rw [zb196_7, if_neg n7, zm_nx, zb196_14]
    simp only [a1.1, zor0, a1.2, q1, q2, Int32.sub_add_cancel, zm_nx, nI_1]
    exact ih (i + 1) _ _ (by omega)
theorem zt_count (x : Int32) (hK : zk_K h Y) (hO : zo_K h Y) : zt_R 104 196 [.int x] h := by
  have k0 := hK.1
  obtain ⟨kV, kO, kd⟩ := hK.2.1
  obtain ⟨ad, Q, -, -, v1, v2, v3, v4⟩ := zV_row kV
  obtain ⟨A, g, a1, a2, a3, -⟩ := id hO
  have h10 : ¬ (1 : Int32) = 0 := by decide
  obtain ⟨⟨gi, i1, i2⟩, ⟨gk, i3, i4⟩, i5, i6, i7⟩ := id hK.2.2.2.2.2.1
  obtain ⟨t0, t1, ⟨ta, tb, tc, td, t2⟩, -, ⟨ra, rb, rc, rd, t7⟩, -⟩ := id hK.2.2.2.1
  obtain ⟨⟨gs, s1, s2⟩, s3, s4, s5⟩ := id hK.2.2.2.2.2.2
  obtain ⟨A, g, a1, a2, a3, -, -, -, -, -, -, -, ⟨c, d1, d2⟩, -, ⟨r1, b1, b2⟩, ⟨r2, b3, b4⟩, -⟩ := id hO
  have d1' : zm_g h (137 + 9) = .inl (2, 2, .inl c) := d1
  have b1' : zm_g h (137 + 10) = .inl (0, 4, .inl r1) := b1
  have b3' : zm_g h (137 + 11) = .inl (0, 4, .inl r2) := b3
  obtain ⟨w1, w2⟩ := zV_arr kV
  have L := qm_count_l (x := x) a1 a2 7 0 0 0 (by omega)
  have T2 : zm_call 196 [.ref 137, .int x] h = zm_den 1 196 50 [.ref 137, .int x, .int (zx_sum Y.1.2.2.1 7 0 0), .int (zx_sum Y.1.2.2.2.1 7 0 0), .int (nI 7)] [] h := by
    rw [zc196, zm_nx, zb196_0, zm_nx]
    exact L
  have al0 : ∀ (g : Nat → Int32) (f : Int32 → zm_O), zq_al (.inl (2, 2, .inl g)) 2 (0 : Int32) f = f (g 0) := fun g f => zq_al_o (j := 0) (by decide) (by decide)
  have al1 : ∀ (g : Nat → Int32) (f : Int32 → zm_O), zq_al (.inl (2, 2, .inl g)) 2 (1 : Int32) f = f (g 1) := fun g f => zq_al_o (j := 1) (by decide) (by decide)
  have al4 : ∀ (g : Nat → Int32) (f : Int32 → zm_O), zq_al (.inl (0, 4, .inl g)) 0 (0 : Int32) f = f (g 0) := fun g f => zq_al_o (j := 0) (by decide) (by decide)
  have ql0 : ∀ f : Nat → zm_O, zq_ql (.inl (6, 4, .inr (.inr (.inr (.inr gs))))) 6 (0 : Int32) f = f (129 + 2 * 0) := fun f => zq_ql_o (j := 0) (by decide) (by decide) (s2 0 (by decide))
  rcases zts_c x 5 (by decide) with hx | ⟨j, hj, rfl⟩
  · refine zt_ro (r := -1) hK hO ?_ (T2.trans ?_)
    · rw [zc104, zm_nx, zb104_0, zts_o (hi := 5) (u := 5) rfl hx, zm_nx, zb104_136]
    · rw [zb196_50, zts_o (hi := 5) (u := 5) rfl hx, zm_nx, zb196_155]
  · have T1 : zm_call 104 [.ref 0, .int (nI j)] h = zm_den 2 104 ([40, 45, 75, 86, 114, 125].getD j 0) [.ref 0, .int (nI j)] [] h := by
      rw [zc104, zm_nx, zb104_0, zts_i (hi := 5) (u := 5) rfl hj (by decide), zm_nx]
    rw [zb196_50, zts_i (hi := 5) (u := 5) rfl hj (by decide), zm_nx] at T2
    match j, hj with
    | 0, _ =>
      refine zt_ro (r := nI Y.2.2.2.1.1) hK hO (T1.trans ?_) (T2.trans ?_)
      · show zm_den 2 104 40 _ _ _ = _
        rw [zb104_40, k0, zki10]
      · show zm_den 1 196 88 _ _ _ = _
        rw [zb196_88, a1.1, zoi19, a3.2.2.1]
    | 1, _ =>
      refine zt_ro (r := Y.2.2.2.2.1.1 0 + Y.2.2.2.2.1.1 1) hK hO (T1.trans ?_) (T2.trans ?_)
      · show zm_den 2 104 45 _ _ _ = _
        rcases i5 0 (by decide) with z | z <;> rcases i5 1 (by decide) with y | y
        · simp only [zB104, k0, zkr12, i3, al0, al1, i4 0 (by decide), i4 1 (by decide), z, y, zm_nx, zq_rc_o, zq_bi_o, zq_bl_o, zq_bv_o, not_true_eq_false, not_false_eq_true, if_true, if_false, h10, ite_self]
        · simp only [zB104, k0, zkr12, i3, al0, al1, i4 0 (by decide), i4 1 (by decide), z, y, zm_nx, zq_rc_o, zq_bi_o, zq_bl_o, zq_bv_o, not_true_eq_false, not_false_eq_true, if_true, if_false, h10, ite_self]
        · simp only [zB104, k0, zkr12, i3, al0, al1, i4 0 (by decide), i4 1 (by decide), z, y, zm_nx, zq_rc_o, zq_bi_o, zq_bl_o, zq_bv_o, not_true_eq_false, not_false_eq_true, if_true, if_false, h10, ite_self]
        · simp only [zB104, k0, zkr12, i3, al0, al1, i4 0 (by decide), i4 1 (by decide), z, y, zm_nx, zq_rc_o, zq_bi_o, zq_bl_o, zq_bv_o, not_true_eq_false, not_false_eq_true, if_true, if_false, h10, ite_self]
      · show zm_den 1 196 93 _ _ _ = _
        rcases i5 0 (by decide) with z | z <;> rcases i5 1 (by decide) with y | y
        · simp only [zB196, a1.1, zor21, d1', al0, al1, d2 0 (by decide), d2 1 (by decide), z, y, zm_nx, zq_rc_o, zq_bi_o, zq_bl_o, zq_bv_o, not_true_eq_false, not_false_eq_true, if_true, if_false, h10, ite_self]
        · simp only [zB196, a1.1, zor21, d1', al0, al1, d2 0 (by decide), d2 1 (by decide), z, y, zm_nx, zq_rc_o, zq_bi_o, zq_bl_o, zq_bv_o, not_true_eq_false, not_false_eq_true, if_true, if_false, h10, ite_self]
        · simp only [zB196, a1.1, zor21, d1', al0, al1, d2 0 (by decide), d2 1 (by decide), z, y, zm_nx, zq_rc_o, zq_bi_o, zq_bl_o, zq_bv_o, not_true_eq_false, not_false_eq_true, if_true, if_false, h10, ite_self]
        · simp only [zB196, a1.1, zor21, d1', al0, al1, d2 0 (by decide), d2 1 (by decide), z, y, zm_nx, zq_rc_o, zq_bi_o, zq_bl_o, zq_bv_o, not_true_eq_false, not_false_eq_true, if_true, if_false, h10, ite_self]
    | 2, _ =>
      refine zt_ro (r := nI Y.2.1.1) hK hO (T1.trans ?_) (T2.trans ?_)
      · show zm_den 2 104 75 _ _ _ = _
        rw [zb104_75, k0, zkr6, t7, zgr_5_0, t2, zgi_4_1]
      · show zm_den 1 196 123 _ _ _ = _
        rw [zb196_123, a1.1, zoi4, a3.1]
    | 3, _ =>
      have L0 := b2 0 (by decide)
      have c3 := s3 0 (by decide)
      have n4 : (Y.2.2.2.2.2 0).1 = -1 ∨ ((¬ (Y.2.2.2.2.2 0).1 = -1) ∧ ¬ (Y.2.2.2.2.2 0).1 = -4) := by
        rcases (s5 0 (by decide)).1 with q | q | q | q
        · exact Or.inl q
        · rw [q]; decide
        · rw [q]; decide
        · rw [q]; decide
      refine zt_ro (r := if (Y.2.2.2.2.2 0).1 = -1 then -4 else nI (Y.2.2.2.2.2 0).2.1) hK hO (T1.trans ?_) (T2.trans ?_)
      · show zm_den 2 104 86 _ _ _ = _
        rcases n4 with q | ⟨q, q4⟩
        · simp only [zB104, k0, zkr13, s1, ql0, c3, zgi_3_1, q, zm_nx, zq_rc_o, zq_bi_o, zq_bl_o, zq_bv_o, not_true_eq_false, not_false_eq_true, if_true, if_false, h10, ite_self]
        · simp only [zB104, k0, zkr13, s1, ql0, c3, zgi_3_1, zgi_3_2, q, zm_nx, zq_rc_o, zq_bi_o, zq_bl_o, zq_bv_o, not_true_eq_false, not_false_eq_true, if_true, if_false, h10, ite_self]
      · show zm_den 1 196 128 _ _ _ = _
        rcases n4 with q | ⟨q, q4⟩
        · rw [if_pos q] at L0
          simp only [zB196, a1.1, zor22, b1', al4, L0, q, zm_nx, zq_rc_o, zq_bi_o, zq_bl_o, zq_bv_o, not_true_eq_false, not_false_eq_true, if_true, if_false, h10, ite_self]
        · rw [if_neg q] at L0
          simp only [zB196, a1.1, zor22, b1', al4, L0, q, q4, zor23, b3', b4 0 (by decide), zm_nx, zq_rc_o, zq_bi_o, zq_bl_o, zq_bv_o, not_true_eq_false, not_false_eq_true, if_true, if_false, h10, ite_self]
    | 4, _ =>
      refine zt_ro (r := zx_sum Y.1.2.2.1 7 0 0) hK hO (T1.trans ?_) (T2.trans ?_)
      · show zm_den 2 104 114 _ _ _ = _
        rw [zb104_114, k0, zkr0, v1, zgr_1_1, qc_asum w1, zq_bi_o]
      · show zm_den 1 196 151 _ _ _ = _
        rw [zb196_151]
    | 5, _ =>
      refine zt_ro (r := zx_sum Y.1.2.2.2.1 7 0 0) hK hO (T1.trans ?_) (T2.trans ?_)
      · show zm_den 2 104 125 _ _ _ = _
        rw [zb104_125, k0, zkr0, v1, zgr_1_2, qc_asum w2, zq_bi_o]
      · show zm_den 1 196 153 _ _ _ = _
        rw [zb196_153]
    | n + 6, hn => exact absurd hn (by omega)
end ZT55
