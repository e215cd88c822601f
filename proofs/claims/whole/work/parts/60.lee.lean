def zp_wd (P : zp_T) (d : Nat) : zp_T := (P.1, P.2.1, P.2.2.1, upd P.2.2.2.1 d 4, P.2.2.2.2)
def zp_ww (P : zp_T) (v : Int32) : zp_T := (P.1, P.2.1, (fun _ => v), P.2.2.2)
noncomputable def zp_cnt (P : zp_T) : Int32 := zc_cnt (zr_bits P.1 P.2.1)
noncomputable def zp_lee (N : Nat) (P : zp_T) : Nat → Nat → Int32 → Int32 → Int32 × Int32
  | 0, _, m, b => (m, b)
  | k + 1, d, m, b => if zp_cnt (zp_run N (zp_wd P d)) ≤ m then zp_lee N P k (d + 1) m b else zp_lee N P k (d + 1) (zp_cnt (zp_run N (zp_wd P d))) (nI d)
section ZT60
variable {h h0 : zm_H} {Y : zy_T} {A0 g0 A g : Nat → Int32} {i : Nat} {P : zp_T}
theorem zp_ok_wd {d : Nat} (ho : zp_ok P) : zp_ok (zp_wd P d) := by
  refine ⟨ho.1, ho.2.1, fun j hj => ⟨(ho.2.2 j hj).1, ?_⟩⟩
  show ∃ b, b < 9 ∧ upd P.2.2.2.1 d 4 j = nI b
  by_cases z : j = d
  · subst z
    exact ⟨4, by decide, pk_us⟩
  · rw [pk_un z]
    exact (ho.2.2 j hj).2
theorem zp_ok_ww {v : Nat} (ho : zp_ok P) (hv : v < 10) : zp_ok (zp_ww P (nI v)) := ⟨ho.1, ho.2.1, fun j hj => ⟨⟨v, hv, rfl⟩, (ho.2.2 j hj).2⟩⟩
theorem qc_lee_l {x2 : Int32} {N : Nat} (hN : N ≤ 60) : ∀ (k d : Nat) (m b : Int32) (u : Value) (h : zm_H), d + k = 7 → zk_K h Y → ∃ h', zm_den 6 85 56 [.ref 0, .int (nI N), .int x2, .int m, .int b, .int (nI d), u] [] h = some (some (.int (zx_ch (zp_lee N Y.1 k d m b).2 (zp_lee N Y.1 k d m b).1 x2)), h') ∧ zk_K h' Y ∧ zm_Fr h h' 11 21 := by
  have h10 : ¬ (1 : Int32) = 0 := by decide
  intro k
  induction k with
  | zero =>
    intro d m b u h hi hK
    have : d = 7 := by omega
    subst this
    refine ⟨h, ?_, hK, zFr_rf _ _ _⟩
    rw [zb85_56, if_pos (by decide), zm_nx, zb85_124]
    simp only [qc_chosen, zq_bi_o, zp_lee]
  | succ k ih =>
    intro d m b u h hi hK
    have k0 := hK.1
    obtain ⟨kV, kO, kd⟩ := hK.2.1
    have hd7 : d < 7 := by omega
    obtain ⟨h1, t1, t2, t3, t4⟩ := zk_trial hK
    obtain ⟨gw, s1, s2, s3⟩ := zV_sd t2
    obtain ⟨ad0, Q0, -, -, u1, u2, u3, u4⟩ := zV_row hK.2.2.1.1.choose_spec
    obtain ⟨ad1, Q1, -, -, y1, y2, y3, y4⟩ := zV_row t2
    have V2 : zp_V (zm_s h1 (11 + 9) (.inl (0, 7, .inl (upd gw d 4)))) 11 (zp_wd Y.1 d) := by
      refine zV_eq (s3 _ (fun b _ _ hb => zg_sn hb) (upd gw d 4) zg_ss) ⟨rfl, fun _ _ => rfl, fun j hj => ⟨rfl, ?_⟩, rfl⟩
      show upd gw d 4 j = upd Y.1.2.2.2.1 d 4 j
      by_cases z : j = d
      · subst z
        rw [pk_us, pk_us]
      · rw [pk_un z, pk_un z]
        exact s2 j hj
    have F2 : zm_Fr h1 (zm_s h1 (11 + 9) (.inl (0, 7, .inl (upd gw d 4)))) 11 21 := zFr_s (by omega) (by omega)
    have K2 := zk_tr t3 V2 F2
    obtain ⟨h3, r1, r2, r3⟩ := qv_run (N := N) V2 (by show Y.1.2.2.2.2 + N < _; omega)
    have K3 := zk_tr K2 r2 r3
    obtain ⟨ad2, Q2, -, -, w1, -⟩ := zV_row V2
    obtain ⟨ad3, Q3, -, -, x1, x3, -⟩ := zV_row r2
    have nu := qv_num r2
    obtain ⟨T, eT⟩ : ∃ T, T = zp_cnt (zp_run N (zp_wd Y.1 d)) := ⟨_, rfl⟩
    have nu' : zm_call 25 [.ref (11 + 1)] h3 = some (some (.int T), h3) := by rw [eT]; exact nu
    have hlt : ¬ (7 : Int32) ≤ nI d := nI_ge (a := d) (b := 7) hd7 (by decide)
    have E : zm_den 6 85 56 [.ref 0, .int (nI N), .int x2, .int m, .int b, .int (nI d), u] [] h = (if T ≤ m then zm_den 6 85 118 [.ref 0, .int (nI N), .int x2, .int m, .int b, .int (nI d), .int T] [] h3 else zm_den 6 85 111 [.ref 0, .int (nI N), .int x2, .int m, .int b, .int (nI d), .int T] [] h3) := by
      rw [zb85_56, if_neg hlt, zm_nx, zb85_63]
      simp only [k0, zkr1, zkr0, u1, zq_rc_o, t1, zq_bv_o, t3.1, y1, zgr_1_2, s1, zq_as_o hd7 (show (7 : Nat) < 2 ^ 31 by decide), K2.1, w1, r1, K3.1, x1, zgr_1_0, x3, nu', zq_bi_o, zm_nx]
    rw [E, zp_lee, ← eT]
    have F3 : zm_Fr h h3 11 21 := zFr_tr t4 (zFr_tr F2 r3)
    by_cases y : T ≤ m
    · obtain ⟨h', e1, e2, e3⟩ := ih (d + 1) m b (.int T) h3 (by omega) K3
      refine ⟨h', ?_, e2, zFr_tr F3 e3⟩
      rw [if_pos y, zb85_118, zm_nx, nI_1, if_pos y]
      exact e1
    · obtain ⟨h', e1, e2, e3⟩ := ih (d + 1) T (nI d) (.int T) h3 (by omega) K3
      refine ⟨h', ?_, e2, zFr_tr F3 e3⟩
      rw [if_neg y, zb85_111, zm_nx, zb85_118, zm_nx, nI_1, if_neg y]
      exact e1
theorem zo_Jn {N : Nat} (J : zo_J h0 h A0 g0 A g) (hP : zs_P g 124 (zp_run N P)) (ho : zp_ok P) : zm_call 142 [.ref 137, .int (124 : Int32)] h = some (some (.int (zr_bits (zp_run N P).1 (zp_run N P).2.1)), h) := qm_bits (p := 124) (zo_Ms J.1) hP (by omega) (zp_ok_run N ho).1
theorem qm_lee_l {x2 : Int32} {N : Nat} (hN : N ≤ 60) (ho : zp_ok P) (hd : P.2.2.2.2 < 1000) : ∀ (k d : Nat) (m b : Int32) (u : Value) (h : zm_H) (A g : Nat → Int32), d + k = 7 → zo_J h0 h A0 g0 A g → zs_P g 0 P → ∃ h' A' g', zm_den 5 173 47 [.ref 137, .int (nI N), .int x2, .int m, .int b, .int (nI d), u] [] h = some (some (.int (zx_ch (zp_lee N P k d m b).2 (zp_lee N P k d m b).1 x2)), h') ∧ zo_J h0 h' A0 g0 A' g' ∧ zs_P g' 0 P := by
  have i5 := ho.1
  have h10 : ¬ (1 : Int32) = 0 := by decide
  intro k
  induction k with
  | zero =>
    intro d m b u h A g hi J hP
    have : d = 7 := by omega
    subst this
    refine ⟨h, A, g, ?_, J, hP⟩
    rw [zb173_47, if_pos (by decide), zm_nx, zb173_127]
    simp only [zp_lee, zx_ch]
    by_cases z : b = -4
    · simp only [zB173, z, zm_nx, zq_rc_o, zq_bi_o, zq_bl_o, zq_bv_o, not_true_eq_false, not_false_eq_true, if_true, if_false, h10, ite_self]
    · by_cases y : x2 = 0
      · simp only [zB173, z, y, zm_nx, zq_rc_o, zq_bi_o, zq_bl_o, zq_bv_o, not_true_eq_false, not_false_eq_true, if_true, if_false, h10, ite_self]
      · simp only [zB173, z, y, zm_nx, zq_rc_o, zq_bi_o, zq_bl_o, zq_bv_o, not_true_eq_false, not_false_eq_true, if_true, if_false, h10, ite_self]
  | succ k ih =>
    intro d m b u h A g hi J hP
    have hd7 : d < 7 := by omega
    obtain ⟨h1, g1, c1, c2, c3, c4⟩ := zo_Jc J hP ho.1 (t := 155) (by omega)
    have c1' : zm_call 160 [.ref 137, .int (0 : Int32), .int (155 : Int32)] h = some (none, h1) := c1
    have J2 := zo_Js (g2 := upd g1 (155 + 23 + d) 0) c2 fun q _ _ => pk_un (by omega)
    have P2 : zs_P (upd g1 (155 + 23 + d) 0) 155 (zp_wd P d) := by
      refine zs_Psd c3 i5 (fun q _ _ _ => pk_un (by omega)) fun j hj => ?_
      by_cases z : j = d
      · subst z
        rw [pk_us, pk_us]
        decide
      · rw [pk_un (by omega), pk_un z]
        exact (c3.2.2.1 j hj).2
    have ho2 := zp_ok_wd (d := d) ho
    obtain ⟨h3, A3, g3, r, d1, d2, d3, -, -, -, -, -, d4⟩ := zo_Jd (f := 155) (N := N) J2 (Or.inr rfl) P2 ho2 (by show P.2.2.2.2 + N < _; omega)
    have d1' : zm_call 161 [.ref 137, .int (155 : Int32), .int (nI N)] (zm_s h1 (137 + 1) (.inl (0, 186, .inl (upd g1 (155 + 23 + d) 0)))) = some (none, h3) := d1
    have bi := zo_Jn d2 d3 ho2
    have bo := qm_bitsOf (h := h3) (n := (zp_run N (zp_wd P d)).1) (v := (zp_run N (zp_wd P d)).2.1) (zp_ok_run N ho2).1
    obtain ⟨T, eT⟩ : ∃ T, T = zp_cnt (zp_run N (zp_wd P d)) := ⟨_, rfl⟩
    have bo' : zm_call 146 [.int (zr_bits (zp_run N (zp_wd P d)).1 (zp_run N (zp_wd P d)).2.1)] h3 = some (some (.int T), h3) := by rw [eT]; exact bo
    have s1 : ∀ (x : Int32) (o : va_E → zm_O), zq_as (.inl (0, 186, .inl g1)) 0 ((178 : Int32) + nI d) x o = o (.inl (0, 186, .inl (upd g1 (155 + 23 + d) x))) := fun x o => by
      rw [show (178 : Int32) + nI d = nI (155 + 23 + d) from nI_add 178 d]
      exact zq_as_o (by omega) (by decide)
    have P3 : zs_P g3 0 P := zs_Pk hP i5 fun q _ _ => by rw [d4 q (by omega), pk_un (by omega), c4 q (by omega)]
    have hlt : ¬ (7 : Int32) ≤ nI d := nI_ge (a := d) (b := 7) hd7 (by decide)
    have E : zm_den 5 173 47 [.ref 137, .int (nI N), .int x2, .int m, .int b, .int (nI d), u] [] h = (if T ≤ m then zm_den 5 173 104 [.ref 137, .int (nI N), .int x2, .int m, .int b, .int (nI d), .int T] [] h3 else zm_den 5 173 99 [.ref 137, .int (nI N), .int x2, .int m, .int b, .int (nI d), .int T] [] h3) := by
      rw [zb173_47, if_neg hlt, zm_nx, zb173_54]
      simp only [J.1.1, zq_rc_o, c1', zq_bv_o, c2.1.1, zor0, c2.1.2, s1, J2.1.1, d1', d2.1.1, bi, bo', zq_bi_o, zm_nx]
    rw [E, zp_lee, ← eT]
    by_cases y : T ≤ m
    · obtain ⟨h', A', g', e1, e2, e3⟩ := ih (d + 1) m b (.int T) h3 A3 g3 (by omega) d2 P3
      refine ⟨h', A', g', ?_, e2, e3⟩
      rw [if_pos y, if_pos y, zb173_104, zm_nx, zb173_106, if_pos y, zm_nx, zb173_119, zm_nx, zb173_120, zm_nx, nI_1]
      exact e1
    · obtain ⟨h', A', g', e1, e2, e3⟩ := ih (d + 1) T (nI d) (.int T) h3 A3 g3 (by omega) d2 P3
      refine ⟨h', A', g', ?_, e2, e3⟩
      rw [if_neg y, if_neg y, zb173_99, zm_nx, zb173_106, if_neg y, zm_nx, zb173_114, zm_nx, zb173_120, zm_nx, nI_1]
      exact e1
theorem zt_lee (x y : Int32) (hK : zk_K h Y) (hO : zo_K h Y) : zt_R 85 173 [.int x, .int y] h := by
  have k0 := hK.1
  obtain ⟨kV, kO, kd⟩ := hK.2.1
  obtain ⟨ad, Q, -, -, v1, v2, v3, v4⟩ := zV_row kV
  obtain ⟨A, g, a1, a2, a3, -⟩ := id hO
  have h10 : ¬ (1 : Int32) = 0 := by decide
  have c0 := qc_within (h := h) x 60
  have m0 := fun h : zm_H => qm_in (h := h) x 0 60 (0 : Int64) (60 : Int64) (by decide) (by decide)
  have c1 := qc_within (h := h) y 1
  have m1 := fun h : zm_H => qm_in (h := h) y 0 1 (0 : Int64) (1 : Int64) (by decide) (by decide)
  rcases zw_in_c x (u := 60) (by decide) with e | ⟨N, hN, ex, e⟩
  · have e' : zw_in x 0 60 = 0 := e
    refine zt_ro (r := -1) hK hO ?_ ?_
    · simp only [zc85, zB85, c0, e', zm_nx, zq_rc_o, zq_bi_o, zq_bl_o, zq_bv_o, not_true_eq_false, not_false_eq_true, if_true, if_false, h10, ite_self]
    · simp only [zc173, zB173, m0, e', zm_nx, zq_rc_o, zq_bi_o, zq_bl_o, zq_bv_o, not_true_eq_false, not_false_eq_true, if_true, if_false, h10, ite_self]
  · subst ex
    have e' : zw_in (nI N) 0 60 = 1 := e
    rcases zw_in_c y (u := 1) (by decide) with f | ⟨w, hw, ey, f⟩
    · have f' : zw_in y 0 1 = 0 := f
      refine zt_ro (r := -1) hK hO ?_ ?_
      · simp only [zc85, zB85, c0, e', c1, f', zm_nx, zq_rc_o, zq_bi_o, zq_bl_o, zq_bv_o, not_true_eq_false, not_false_eq_true, if_true, if_false, h10, ite_self]
      · simp only [zc173, zB173, m0, e', m1, f', zm_nx, zq_rc_o, zq_bi_o, zq_bl_o, zq_bv_o, not_true_eq_false, not_false_eq_true, if_true, if_false, h10, ite_self]
    · have f' : zw_in y 0 1 = 1 := f
      obtain ⟨h1, t1, t2, t3, t4⟩ := zk_trial hK
      obtain ⟨ad0, Q0, -, -, u1, u2, u3, u4⟩ := zV_row hK.2.2.1.1.choose_spec
      obtain ⟨ad1, Q1, -, -, y1, y2, y3, y4⟩ := zV_row t2
      obtain ⟨h2, r1, r2, r3⟩ := qv_run (N := N) t2 (by omega)
      have K2 := zk_tr t3 r2 r3
      obtain ⟨ad2, Q2, -, -, w1, w2, -⟩ := zV_row r2
      have nu : zm_call 25 [.ref (11 + 1)] h2 = some (some (.int (zp_cnt (zp_run N Y.1))), h2) := qv_num r2
      obtain ⟨h3, b1, b2, b3⟩ := qc_lee_l (x2 := y) hN 7 0 (zp_cnt (zp_run N Y.1)) (-4) .null h2 (by omega) K2
      have F3 : zm_Fr h h3 11 21 := zFr_tr t4 (zFr_tr r3 b3)
      refine zt_mk hO (r := zx_ch (zp_lee N Y.1 7 0 (zp_cnt (zp_run N Y.1)) (-4)).2 (zp_lee N Y.1 7 0 (zp_cnt (zp_run N Y.1)) (-4)).1 y) ?_ b2 (zFr_mn F3 (by omega) (by omega)) fun O1 => ?_
      · rw [zc85, zm_nx, zb85_0]
        simp only [c0, e', zq_bi_o, h10, if_false, zm_nx]
        rw [zb85_9]
        simp only [c1, f', zq_bi_o, h10, not_false_eq_true, if_true, zm_nx]
        rw [zb85_19]
        simp only [k0, zkr1, zkr0, u1, zq_rc_o, t1, zq_bv_o, t3.1, y1, r1, K2.1, w1, zgr_1_0, w2, nu, zq_bi_o, zm_nx]
        exact b1
      obtain ⟨A, g, J, a2⟩ := zo_J0 O1
      obtain ⟨h4, A4, g4, r, d1, d2, d3, -, -, -, -, -, d4⟩ := zo_Jd (f := 0) (N := N) J (Or.inl (by omega)) a2 kO (by omega)
      have d1' : zm_call 161 [.ref 137, .int (0 : Int32), .int (nI N)] h3 = some (none, h4) := d1
      have bi := zo_Jn d2 d3 kO
      have bo : zm_call 146 [.int (zr_bits (zp_run N Y.1).1 (zp_run N Y.1).2.1)] h4 = some (some (.int (zp_cnt (zp_run N Y.1))), h4) := qm_bitsOf (zp_ok_run N kO).1
      obtain ⟨h5, A5, g5, q1, q2, q3⟩ := qm_lee_l (x2 := y) hN kO kd 7 0 (zp_cnt (zp_run N Y.1)) (-4) .null h4 A4 g4 (by omega) d2 (zs_Pk a2 v3 fun q _ _ => d4 q (by omega))
      have R := zo_Je (P := Y.1) hK.2.2.2.2.2.1 O1 J.1 q2 q3
      refine ⟨h5, ?_, R.1, R.2⟩
      rw [zc173, zm_nx, zb173_0]
      simp only [m0, e', zq_bi_o, h10, if_false, zm_nx]
      rw [zb173_12]
      simp only [m1, f', zq_bi_o, h10, not_false_eq_true, if_true, zm_nx]
      rw [zb173_24]
      simp only [J.1.1, zq_rc_o, d1', zq_bv_o, d2.1.1, bi, zq_bi_o, bo, zm_nx]
      exact q1
def zp_thaw (i N : Nat) (P : zp_T) : Nat → Int32
  | 0 => -4
  | k + 1 => if ((zp_run N (zp_ww P (nI k))).2.1 i).2.1 ≤ 0 then zp_thaw i N P k else nI k
theorem zx_m1 (x : Int32) : x + (-1) = x - 1 := (Int32.sub_eq_add_neg _ _).symm
theorem qc_thaw_l {N : Nat} (hN : N ≤ 60) (hi : i < Y.1.1) : ∀ (k : Nat) (h : zm_H), k ≤ 10 → zk_K h Y → ∃ h', zm_den 6 88 22 [.ref 0, .int (nI i), .int (nI N), .int (nI k - 1)] [] h = some (some (.int (zp_thaw i N Y.1 k)), h') ∧ zk_K h' Y ∧ zm_Fr h h' 11 21 := by
  have h10 : ¬ (1 : Int32) = 0 := by decide
  intro k
  induction k with
  | zero =>
    intro h hk hK
    refine ⟨h, ?_, hK, zFr_rf _ _ _⟩
    rw [zb88_22, if_pos (by decide), zm_nx, zb88_82]
    rfl
  | succ k ih =>
    intro h hk hK
    have k0 := hK.1
    obtain ⟨kV, kO, kd⟩ := hK.2.1
    obtain ⟨h1, t1, t2, t3, t4⟩ := zk_trial hK
    obtain ⟨gw, s1, s2, s3⟩ := zV_sw t2
    obtain ⟨ad0, Q0, -, -, u1, u2, u3, u4⟩ := zV_row hK.2.2.1.1.choose_spec
    obtain ⟨ad1, Q1, -, -, y1, y2, y3, y4⟩ := zV_row t2
    obtain ⟨h2, f1, ⟨gf, f2, f4⟩, f3⟩ := qc_fill (h := h1) (a := 11 + 8) (m := 7) (x := nI k) (w := gw) (by decide) ⟨gw, s1, fun _ _ => rfl⟩
    have V2 : zp_V h2 11 (zp_ww Y.1 (nI k)) := zV_eq (s3 h2 (fun b _ _ hb => f3.2.2 b (by omega)) gf f2) ⟨rfl, fun _ _ => rfl, fun j hj => ⟨f4 j hj, rfl⟩, rfl⟩
    have F2 : zm_Fr h1 h2 11 21 := zFr_mn f3 (by omega) (by omega)
    have K2 := zk_tr t3 V2 F2
    obtain ⟨h3, r1, r2, r3⟩ := qv_run (N := N) V2 (by show Y.1.2.2.2.2 + N < _; omega)
    have K3 := zk_tr K2 r2 r3
    obtain ⟨ad2, Q2, -, -, w1, -⟩ := zV_row V2
    obtain ⟨ad3, Q3, -, -, x1, x3, x4, -⟩ := zV_row r2
    have hi3 : i < (zp_run N (zp_ww Y.1 (nI k))).1 := by rw [zp_run_n]; exact hi
    obtain ⟨ga, a, d1, d2, d3, d4, d5⟩ := zV_fig r2 hi3
    have st := qc_stands d3
    have hlt : ¬ nI k < 0 := nI_pos (by omega)
    have i5 : i < 5 := Nat.lt_of_lt_of_le hi3 x4
    rw [nI_pred]
    have E : zm_den 6 88 22 [.ref 0, .int (nI i), .int (nI N), .int (nI k)] [] h = (if ((zp_run N (zp_ww Y.1 (nI k))).2.1 i).2.1 ≤ 0 then zm_den 6 88 76 [.ref 0, .int (nI i), .int (nI N), .int (nI k)] [] h3 else zm_den 6 88 74 [.ref 0, .int (nI i), .int (nI N), .int (nI k)] [] h3) := by
      rw [zb88_22, if_neg hlt, zm_nx, zb88_26]
      simp only [k0, zkr1, zkr0, u1, zq_rc_o, t1, zq_bv_o, t3.1, y1, zgr_1_1, f1, K2.1, w1, r1, K3.1, x1, zgr_1_0, x3, zgr_2_0, d1, zq_ql_o i5 (show (5 : Nat) < 2 ^ 31 by decide) d2, d3, zrf_c, st, zq_bi_o, zm_nx]
      by_cases z : ((zp_run N (zp_ww Y.1 (nI k))).2.1 i).2.1 ≤ 0
      · simp only [z, if_true]
      · simp only [z, if_false, h10]
    rw [E, zp_thaw]
    have F3 : zm_Fr h h3 11 21 := zFr_tr t4 (zFr_tr F2 r3)
    by_cases y : ((zp_run N (zp_ww Y.1 (nI k))).2.1 i).2.1 ≤ 0
    · obtain ⟨h', e1, e2, e3⟩ := ih h3 (by omega) K3
      refine ⟨h', ?_, e2, zFr_tr F3 e3⟩
      rw [if_pos y, zb88_76, zm_nx, zx_m1, if_pos y]
      exact e1
    · refine ⟨h3, ?_, K3, F3⟩
      rw [if_neg y, zb88_74, if_neg y]
theorem qm_warm_l {x1 x2 x3 : Int32} {g1 : Nat → Int32} : ∀ (k d : Nat) (h : zm_H) (g : Nat → Int32), d + k = 7 → zo_J h0 h A0 g0 A g → (∀ q, (q < 171 + d ∨ 178 ≤ q) → g q = (if 171 ≤ q ∧ q < 171 + d then x3 - 1 else g1 q)) → (∀ q, 171 ≤ q → q < 171 + d → g q = x3 - 1) → ∃ h' g', zm_den 5 177 40 [.ref 137, .int x1, .int x2, .int x3, .int (nI d)] [] h = zm_den 5 177 67 [.ref 137, .int x1, .int x2, .int x3, .int (nI 7)] [] h' ∧ zo_J h0 h' A0 g0 A g' ∧ (∀ q, 171 ≤ q → q < 178 → g' q = x3 - 1) ∧ ∀ q, (q < 171 ∨ 178 ≤ q) → g' q = g q := by
  intro k
  induction k with
  | zero =>
    intro d h g hd J hg hw
    have : d = 7 := by omega
    subst this
    refine ⟨h, g, ?_, J, fun q q1 q2 => hw q q1 (by omega), fun _ _ => rfl⟩
    rw [zb177_40, if_pos (by decide), zm_nx]
  | succ k ih =>
    intro d h g hd J hg hw
    have J2 := zo_Js (g2 := upd g (171 + d) (x3 - 1)) J fun q _ _ => pk_un (by omega)
    obtain ⟨h', g', e1, e2, e3, e4⟩ := ih (d + 1) _ _ (by omega) J2 (fun q hq => by
      by_cases z : q = 171 + d
      · subst z
        rw [pk_us, if_pos (by omega)]
      · rw [pk_un z, hg q (by omega)]
        by_cases w : 171 ≤ q ∧ q < 171 + d
        · rw [if_pos w, if_pos (by omega)]
        · rw [if_neg w, if_neg (by omega)]) (fun q q1 q2 => by
      by_cases z : q = 171 + d
      · subst z
        rw [pk_us]
      · rw [pk_un z]
        exact hw q q1 (by omega))
    refine ⟨h', g', ?_, e2, e3, fun q hq => by rw [e4 q hq, pk_un (by omega)]⟩
    have hlt : ¬ (7 : Int32) ≤ nI d := nI_ge (a := d) (b := 7) (by omega) (by decide)
    have s1 : ∀ (x : Int32) (o : va_E → zm_O), zq_as (.inl (0, 186, .inl g)) 0 ((171 : Int32) + nI d) x o = o (.inl (0, 186, .inl (upd g (171 + d) x))) := fun x o => by
      rw [show (171 : Int32) + nI d = nI (171 + d) from nI_add 171 d]
      exact zq_as_o (by omega) (by decide)
    rw [zb177_40, if_neg hlt, zm_nx, zb177_47]
    simp only [J.1.1, zor0, J.1.2, s1, nI_1, zm_nx]
    exact e1
theorem qm_thaw_l {N : Nat} (hN : N ≤ 60) (ho : zp_ok P) (hd : P.2.2.2.2 < 1000) (hi : i < P.1) : ∀ (k : Nat) (u : Value) (h : zm_H) (A g : Nat → Int32), k ≤ 10 → zo_J h0 h A0 g0 A g → zs_P g 0 P → ∃ h' A' g', zm_den 5 177 25 [.ref 137, .int (nI i), .int (nI N), .int (nI k - 1), u] [] h = some (some (.int (zp_thaw i N P k)), h') ∧ zo_J h0 h' A0 g0 A' g' ∧ zs_P g' 0 P := by
  have i5 := ho.1
  have h10 : ¬ (1 : Int32) = 0 := by decide
  intro k
  induction k with
  | zero =>
    intro u h A g hk J hP
    refine ⟨h, A, g, ?_, J, hP⟩
    rw [zb177_25, if_pos (by decide), zm_nx, zb177_96]
    rfl
  | succ k ih =>
    intro u h A g hk J hP
    obtain ⟨h1, g1, c1, c2, c3, c4⟩ := zo_Jc J hP ho.1 (t := 155) (by omega)
    have c1' : zm_call 160 [.ref 137, .int (0 : Int32), .int (155 : Int32)] h = some (none, h1) := c1
    obtain ⟨h2, g2, w1, J2, w3, w4⟩ := qm_warm_l (x1 := nI i) (x2 := nI N) (x3 := nI k) (g1 := g1) 7 0 h1 g1 (by omega) c2 (fun q hq => by rw [if_neg (by omega)]) (fun q q1 q2 => absurd q2 (by omega))
    have P2 : zs_P g2 155 (zp_ww P (nI k)) := by
      refine zs_Psw c3 i5 (fun q q1 q2 q3 => w4 q (by omega)) fun j hj => ?_
      exact w3 (155 + 16 + j) (by omega) (by omega)
    have ho2 := zp_ok_ww (v := k) ho (by omega)
    obtain ⟨h3, A3, g3, r, d1, d2, d3, -, -, -, -, -, d4⟩ := zo_Jd (f := 155) (N := N) J2 (Or.inr rfl) P2 ho2 (by show P.2.2.2.2 + N < _; omega)
    have d1' : zm_call 161 [.ref 137, .int (155 : Int32), .int (nI N)] h2 = some (none, h3) := d1
    have hi3 : i < (zp_run N (zp_ww P (nI k))).1 := by rw [zp_run_n]; exact hi
    have q1 : ∀ o : Int32 → zm_O, zq_al (.inl (0, 186, .inl g3)) 0 ((129 : Int32) + nI i) o = o ((zp_run N (zp_ww P (nI k))).2.1 i).2.1 := fun o => zy_al (j := 124 + 5 + i) (nI_add 129 i) (by omega) (by decide) (d3.2.1 i hi3).2.1
    have P3 : zs_P g3 0 P := zs_Pk hP i5 fun q _ _ => by rw [d4 q (by omega), w4 q (by omega), c4 q (by omega)]
    have hlt : ¬ nI k < 0 := nI_pos (by omega)
    rw [nI_pred]
    have w1' : zm_den 5 177 40 [.ref 137, .int (nI i), .int (nI N), .int (nI k), .int (0 : Int32)] [] h1 = zm_den 5 177 67 [.ref 137, .int (nI i), .int (nI N), .int (nI k), .int (nI 7)] [] h2 := w1
    have E : zm_den 5 177 25 [.ref 137, .int (nI i), .int (nI N), .int (nI k), u] [] h = (if ((zp_run N (zp_ww P (nI k))).2.1 i).2.1 ≤ 0 then zm_den 5 177 90 [.ref 137, .int (nI i), .int (nI N), .int (nI k), .int (nI 7)] [] h3 else zm_den 5 177 88 [.ref 137, .int (nI i), .int (nI N), .int (nI k), .int (nI 7)] [] h3) := by
      rw [zb177_25, if_neg hlt, zm_nx, zb177_29]
      simp only [J.1.1, zq_rc_o, c1', zq_bv_o, zm_nx]
      rw [w1', zb177_67]
      simp only [J2.1.1, zq_rc_o, d1', zq_bv_o, d2.1.1, zor0, d2.1.2, q1, zm_nx]
    rw [E, zp_thaw]
    by_cases y : ((zp_run N (zp_ww P (nI k))).2.1 i).2.1 ≤ 0
    · obtain ⟨h', A', g', e1, e2, e3⟩ := ih (.int (nI 7)) h3 A3 g3 (by omega) d2 P3
      refine ⟨h', A', g', ?_, e2, e3⟩
      rw [if_pos y, zb177_90, zm_nx, zx_m1, if_pos y]
      exact e1
    · refine ⟨h3, A3, g3, ?_, d2, P3⟩
      rw [if_neg y, zb177_88, if_neg y]
theorem zt_thaw (x y : Int32) (hK : zk_K h Y) (hO : zo_K h Y) : zt_R 88 177 [.int x, .int y] h := by
  have k0 := hK.1
  obtain ⟨kV, kO, kd⟩ := hK.2.1
  obtain ⟨ad, Q, -, -, v1, v2, v3, v4⟩ := zV_row kV
  obtain ⟨A, g, a1, a2, a3, -⟩ := id hO
  have h10 : ¬ (1 : Int32) = 0 := by decide
  have c0 := qc_isfig (x := x) k0 kV
  have m0 := qm_isfig (x := x) a1 a2 v3
  have c1 := qc_within (h := h) y 60
  have m1 := fun h : zm_H => qm_in (h := h) y 0 60 (0 : Int64) (60 : Int64) (by decide) (by decide)
  rcases zw_fig_c x v3 with e | ⟨i, hi, ex, e⟩
  · refine zt_ro (r := -1) hK hO ?_ ?_
    · simp only [zc88, zB88, k0, c0, e, zm_nx, zq_rc_o, zq_bi_o, zq_bl_o, zq_bv_o, not_true_eq_false, not_false_eq_true, if_true, if_false, h10, ite_self]
    · simp only [zc177, zB177, a1.1, m0, e, zm_nx, zq_rc_o, zq_bi_o, zq_bl_o, zq_bv_o, not_true_eq_false, not_false_eq_true, if_true, if_false, h10, ite_self]
  · subst ex
    rw [e] at c0 m0
    rcases zw_in_c y (u := 60) (by decide) with f | ⟨N, hN, ey, f⟩
    · have f' : zw_in y 0 60 = 0 := f
      refine zt_ro (r := -1) hK hO ?_ ?_
      · simp only [zc88, zB88, k0, c0, c1, f', zm_nx, zq_rc_o, zq_bi_o, zq_bl_o, zq_bv_o, not_true_eq_false, not_false_eq_true, if_true, if_false, h10, ite_self]
      · simp only [zc177, zB177, a1.1, m0, m1, f', zm_nx, zq_rc_o, zq_bi_o, zq_bl_o, zq_bv_o, not_true_eq_false, not_false_eq_true, if_true, if_false, h10, ite_self]
    · subst ey
      have f' : zw_in (nI N) 0 60 = 1 := f
      obtain ⟨h1, b1, b2, b3⟩ := qc_thaw_l hN hi 10 h (by omega) hK
      have b1' : zm_den 6 88 22 [.ref 0, .int (nI i), .int (nI N), .int (9 : Int32)] [] h = _ := b1
      refine zt_mk hO (r := zp_thaw i N Y.1 10) ?_ b2 (zFr_mn b3 (by omega) (by omega)) fun O1 => ?_
      · simp only [zc88, zB88, k0, c0, c1, f', b1', zm_nx, zq_rc_o, zq_bi_o, zq_bl_o, zq_bv_o, not_true_eq_false, not_false_eq_true, if_true, if_false, h10, ite_self]
      obtain ⟨A, g, J, a2⟩ := zo_J0 O1
      have m0 := qm_isfig (x := nI i) J.1 a2 v3
      rw [e] at m0
      obtain ⟨h2, A2, g2, q1, q2, q3⟩ := qm_thaw_l hN kO kd hi 10 .null h1 A g (by omega) J a2
      have q1' : zm_den 5 177 25 [.ref 137, .int (nI i), .int (nI N), .int (9 : Int32), .null] [] h1 = _ := q1
      have R := zo_Je (P := Y.1) hK.2.2.2.2.2.1 O1 J.1 q2 q3
      refine ⟨h2, ?_, R.1, R.2⟩
      simp only [zc177, zB177, J.1.1, m0, m1, f', q1', zm_nx, zq_rc_o, zq_bi_o, zq_bl_o, zq_bv_o, not_true_eq_false, not_false_eq_true, if_true, if_false, h10, ite_self]
end ZT60
