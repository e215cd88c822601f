def zx_fa (lane l x : Int32) (len : Nat) : Int32 := if ¬ lane = -1 then (if lane = l then (if x < 0 then 2 else if x < nI len then 0 else 2) else 3) else 1
def zp_ext (P0 P : zp_T) : Prop := P0.1 ≤ P.1 ∧ (∀ j, j < P0.1 → P.2.1 j = P0.2.1 j) ∧ P.2.2 = P0.2.2
def zp_rd (c : Nat → Int32) (F len : Nat) (P0 : zp_T) (R0 : Int32) : Nat → Nat → zp_T → Int32 × Int32 × zp_T
  | 0, i, P => (nI i, 0, P)
  | k + 1, i, P => if len ≤ F + 2 * i + 1 then (nI i, 2, P) else if 0 ≤ (zp_roll (c (F + 2 * i)) (c (F + 2 * i + 1)) P).1 then zp_rd c F len P0 R0 k (i + 1) (zp_roll (c (F + 2 * i)) (c (F + 2 * i + 1)) P).2 else (-20 - nI i, R0, P0)
section ZT75
variable {h h0 : zm_H} {Y : zy_T} {A0 g0 A g : Nat → Int32} {P : zp_T}
theorem zp_ext_roll {P0 : zp_T} {x y : Int32} (e : zp_ext P0 P) : zp_ext P0 (zp_roll x y P).2 := by
  unfold zp_roll
  repeat' split
  · exact e
  · exact e
  · exact e
  · refine ⟨Nat.le_succ_of_le e.1, fun j hj => ?_, e.2.2⟩
    show (if j = P.1 then _ else P.2.1 j) = _
    have := e.1
    rw [if_neg (by omega)]
    exact e.2.1 j hj
theorem qc_fa {a c len : Nat} {lane l x : Int32} (hg : zm_g h a = .inr (3, [.ref c, .int lane, .int (nI len)])) : zm_call 59 [.ref a, .int x, .int l] h = some (some (.int (zx_fa lane l x len)), h) := by
  have h10 : ¬ (1 : Int32) = 0 := by decide
  unfold zx_fa
  rw [zc59, zm_nx, zb59_0]
  simp only [hg, zgi_3_1, zm_nx]
  by_cases u : lane = -1
  · rw [if_neg (not_not_intro u), if_neg (not_not_intro u), zb59_8]
  · rw [if_pos u, if_pos u, zb59_10]
    simp only [hg, zgi_3_1, zm_nx]
    by_cases w : lane = l
    · rw [if_pos w, if_pos w, zb59_20]
      by_cases y : x < 0
      · rw [if_pos y, if_pos y, zm_nx, zb59_32, zm_nx, zb59_37]
      · rw [if_neg y, if_neg y, zm_nx, zb59_24]
        simp only [hg, zgi_3_2, zm_nx]
        by_cases z : x < nI len
        · rw [if_pos z, if_pos z, zb59_36, zm_nx, zb59_37]
        · rw [if_neg z, if_neg z, zb59_32, zm_nx, zb59_37]
    · rw [if_neg w, if_neg w, zb59_18]
theorem qc_fp {a c len : Nat} {lane l x : Int32} {i : Int32} (hg : zm_g h a = .inr (3, [.ref c, .int lane, .int (nI len)])) : zm_call 60 [.ref a, .int x, .int i, .int l] h = some (some (.int (if zx_fa lane l x len = 0 then zx_fa lane l (x + 2 * i + 1) len else zx_fa lane l x len)), h) := by
  rw [zc60, zm_nx, zb60_0]
  simp only [hg, zq_rc_o, qc_fa hg, zq_bi_o, zm_nx]
  by_cases z : zx_fa lane l x len = 0
  · rw [if_pos z, if_pos z, zb60_18]
    simp only [hg, zq_rc_o, qc_fa hg, zq_bi_o, zm_nx]
    rw [zb60_30]
  · rw [if_neg z, if_neg z, zb60_13, zm_nx, zb60_30]
theorem zV_back {P0 : zp_T} (hV : zp_V h 1 P) (e : zp_ext P0 P) (hn : P0.1 ≤ 5) : zp_V (zm_s h 2 (.inr (2, [.ref 3, .int (nI P0.1)]))) 1 P0 := by
  obtain ⟨ad, Q, q1, q2⟩ := hV
  refine ⟨ad, (P0.1, Q.2), ?_, rfl, fun i hi => ?_, fun d hd => ?_, ?_⟩
  · obtain ⟨b1, b2, ⟨b3, b4, ⟨gg, b5, b6⟩, b7, b8, b9⟩, ⟨g1, b10, b11⟩, ⟨g2, b12, b13⟩⟩ := q1
    refine ⟨b1, by rw [zg_sn (by omega)]; exact b2, ⟨hn, zg_ss, ⟨gg, by rw [zg_sn (by omega)]; exact b5, b6⟩, fun i hi => ?_, b8, b9⟩, ⟨g1, by rw [zg_sn (by omega)]; exact b10, b11⟩, ⟨g2, by rw [zg_sn (by omega)]; exact b12, b13⟩⟩
    have := b8 i hi
    rw [zg_sn (by omega)]
    exact b7 i hi
  · have hi' : i < P0.1 := hi
    have := e.1
    rw [← e.2.1 i hi']
    exact q2.2.1 i (by rw [q2.1]; omega)
  · have := q2.2.2.1 d hd
    rw [e.2.2] at this
    exact this
  · have := q2.2.2.2
    rw [e.2.2] at this
    exact this
theorem qc_read_l {k F n : Nat} {l : Int32} (hk : k < 4) (hn : n ≤ 20) (h0K : zp_ok Y.1) (hd0 : Y.1.2.2.2.2 < 1000) (hl : (Y.2.2.2.2.2 k).1 = l) (hl1 : ¬ l = -1) (hF : F < (Y.2.2.2.2.2 k).2.1) : ∀ (c i : Nat) (h : zm_H) (P : zp_T) (v8 v9 : Value), i + c = n → zk_K h (P, Y.2) → zp_ext Y.1 P → ∃ h', zm_den 3 102 51 [.ref 0, .int (nI k), .int l, .int (nI F), .int (nI n), .ref (129 + 2 * k), .int (nI Y.1.1), .int (nI i), v8, v9] [] h = some (some (.int (zp_rd (Y.2.2.2.2.2 k).2.2 F (Y.2.2.2.2.2 k).2.1 Y.1 Y.2.2.1.2 c i P).1), h') ∧ zk_K h' ((zp_rd (Y.2.2.2.2.2 k).2.2 F (Y.2.2.2.2.2 k).2.1 Y.1 Y.2.2.1.2 c i P).2.2, Y.2.1, (Y.2.2.1.1, (zp_rd (Y.2.2.2.2.2 k).2.2 F (Y.2.2.2.2.2 k).2.1 Y.1 Y.2.2.1.2 c i P).2.1), Y.2.2.2) ∧ zm_Fr h h' 0 137 := by
  intro c
  induction c with
  | zero =>
    intro i h P v8 v9 hi hK he
    have : i = n := by omega
    subst this
    refine ⟨zm_s h 0 (.inr (6, zk_c Y.2.2.1.1 (nI Y.2.2.2.1.1) 0)), ?_, zk_setR hK zg_ss fun b hb => zg_sn hb, zFr_s (by omega) (by omega)⟩
    have k0 := hK.1
    rw [zb102_51, if_pos (nI_le (Nat.le_refl _) (by omega)), zm_nx, zb102_140]
    simp only [k0, zkp14]
    rfl
  | succ c ih =>
    intro i h P v8 v9 hi hK he
    have k0 : zm_g h 0 = .inr (6, zk_c Y.2.2.1.1 (nI Y.2.2.2.1.1) Y.2.2.1.2) := hK.1
    have kV : zp_V h 1 P := hK.2.1.1
    have kO : zp_ok P := hK.2.1.2.1
    have kd : P.2.2.2.2 < 1000 := hK.2.1.2.2
    obtain ⟨⟨gs, s1, s2⟩, s3, s4, s5⟩ := id hK.2.2.2.2.2.2
    have c3 : zm_g h (129 + 2 * k) = .inr (3, [.ref (130 + 2 * k), .int (Y.2.2.2.2.2 k).1, .int (nI (Y.2.2.2.2.2 k).2.1)]) := s3 k hk
    obtain ⟨gc, s6, s7⟩ := s4 k hk
    have s7' : ∀ i, i < 40 → gc i = (Y.2.2.2.2.2 k).2.2 i := s7
    have len40 : (Y.2.2.2.2.2 k).2.1 ≤ 40 := (s5 k hk).2
    obtain ⟨len, elen⟩ : ∃ len, len = (Y.2.2.2.2.2 k).2.1 := ⟨_, rfl⟩
    obtain ⟨C, eC⟩ : ∃ C, C = (Y.2.2.2.2.2 k).2.2 := ⟨_, rfl⟩
    rw [← elen] at c3 hF len40 ih ⊢
    rw [← eC] at s7' ih ⊢
    rw [hl] at c3
    have i2 : nI F + (2 : Int32) * nI i = nI (F + 2 * i) := by rw [show (2 : Int32) * nI i = nI (2 * i) from pk_mul 2 i, nI_add]
    have fa0 : zx_fa l l (nI F) len = 0 := by
      unfold zx_fa
      rw [if_pos hl1, if_pos rfl, if_neg (nI_pos (by omega)), if_pos (nI_lt hF (by omega))]
    have fp := qc_fp (x := nI F) (i := nI i) (l := l) c3
    rw [if_pos fa0, i2, nI_1] at fp
    have hlt : ¬ nI n ≤ nI i := nI_ge (by omega) (by omega)
    unfold zp_rd
    by_cases z : len ≤ F + 2 * i + 1
    · have fa1 : zx_fa l l (nI (F + 2 * i + 1)) len = 2 := by
        unfold zx_fa
        rw [if_pos hl1, if_pos rfl, if_neg (nI_pos (by omega)), if_neg (nI_nlt z (by omega))]
      rw [fa1] at fp
      simp only [if_pos z]
      refine ⟨zm_s h 0 (.inr (6, zk_c Y.2.2.1.1 (nI Y.2.2.2.1.1) 2)), ?_, zk_setR hK zg_ss fun b hb => zg_sn hb, zFr_s (by omega) (by omega)⟩
      rw [zb102_51, if_neg hlt, zm_nx, zb102_58]
      simp only [c3, zq_rc_o, fp, zq_bi_o, zm_nx]
      rw [if_neg (by decide), zb102_74]
      simp only [k0, zkp14]
    · have fa1 : zx_fa l l (nI (F + 2 * i + 1)) len = 0 := by
        unfold zx_fa
        rw [if_pos hl1, if_pos rfl, if_neg (nI_pos (by omega)), if_pos (nI_lt (by omega) (by omega))]
      rw [fa1] at fp
      simp only [if_neg z]
      obtain ⟨h1, b1, b2, b3⟩ := qc_roll (x := C (F + 2 * i)) (y := C (F + 2 * i + 1)) k0 kV
      have K1 : zk_K h1 ((zp_roll (C (F + 2 * i)) (C (F + 2 * i + 1)) P).2, Y.2) := zk_now (Y := (P, Y.2)) hK b2 (zp_roll_ok kO) (by rw [zp_roll_day]; exact kd) b3
      obtain ⟨r, er⟩ : ∃ r, r = (zp_roll (C (F + 2 * i)) (C (F + 2 * i + 1)) P).1 := ⟨_, rfl⟩
      rw [← er] at b1
      have E : zm_den 3 102 51 [.ref 0, .int (nI k), .int l, .int (nI F), .int (nI n), .ref (129 + 2 * k), .int (nI Y.1.1), .int (nI i), v8, v9] [] h = (if 0 ≤ r then zm_den 3 102 134 [.ref 0, .int (nI k), .int l, .int (nI F), .int (nI n), .ref (129 + 2 * k), .int (nI Y.1.1), .int (nI i), .int 0, .int (nI (F + 2 * i))] [] h1 else zm_den 3 102 116 [.ref 0, .int (nI k), .int l, .int (nI F), .int (nI n), .ref (129 + 2 * k), .int (nI Y.1.1), .int (nI i), .int 0, .int (nI (F + 2 * i))] [] h1) := by
        rw [zb102_51, if_neg hlt, zm_nx, zb102_58]
        simp only [c3, zq_rc_o, fp, zq_bi_o, if_true, zm_nx]
        rw [zb102_83]
        simp only [c3, zgr_3_0, s6, i2, nI_1, zq_al_o (show F + 2 * i < 40 by omega) (show (40 : Nat) < 2 ^ 31 by decide), zq_al_o (show F + 2 * i + 1 < 40 by omega) (show (40 : Nat) < 2 ^ 31 by decide), s7' _ (show F + 2 * i < 40 by omega), s7' _ (show F + 2 * i + 1 < 40 by omega), k0, zq_rc_o, b1, zq_bi_o, zm_nx]
      rw [E, ← er]
      by_cases y : 0 ≤ r
      · obtain ⟨h', d1, d2, d3⟩ := ih (i + 1) h1 _ (.int 0) (.int (nI (F + 2 * i))) (by omega) K1 (zp_ext_roll he)
        simp only [if_pos y]
        refine ⟨h', ?_, d2, zFr_tr (zFr_mn b3 (by omega) (by omega)) d3⟩
        rw [zb102_134, zm_nx, nI_1]
        exact d1
      · simp only [if_neg y]
        obtain ⟨ad2, Q2, -, -, w1, w2, w3, w4⟩ := zV_row b2
        have V2 := zV_back b2 (zp_ext_roll he) h0K.1
        have F2 : zm_Fr h1 (zm_s h1 2 (.inr (2, [.ref 3, .int (nI Y.1.1)]))) 1 11 := zFr_s (by omega) (by omega)
        refine ⟨_, ?_, zk_now (Y := ((zp_roll (C (F + 2 * i)) (C (F + 2 * i + 1)) P).2, Y.2)) K1 V2 h0K hd0 F2, zFr_tr (zFr_mn b3 (by omega) (by omega)) (zFr_mn F2 (by omega) (by omega))⟩
        rw [zb102_116]
        simp only [K1.1, zkr0, w1, zgr_1_0, w2, zpi_2_1]
end ZT75
