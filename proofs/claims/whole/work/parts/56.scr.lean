/-- the reference at work on its scratch: since h0 only that changed -/
def zo_J (h0 h : zm_H) (A0 g0 A g : Nat → Int32) : Prop := zo_M h 137 A g ∧ (∀ c, c ≠ 14 → c ≠ 15 → c ≠ 16 → A c = A0 c) ∧ (∀ q, 31 ≤ q → q < 93 → g q = g0 q) ∧ (∃ r, zm_g h 143 = .inl (0, 5, .inl r)) ∧ (∃ d, zm_g h 145 = .inl (0, 124, .inl d)) ∧ h.1 = h0.1 ∧ h.2.1 = h0.2.1 ∧ ∀ b, b ≠ 137 → b ≠ 138 → b ≠ 143 → b ≠ 145 → zm_g h b = zm_g h0 b
section ZT56
variable {h0 h : zm_H} {Y : zy_T} {A0 g0 A g : Nat → Int32} {P : zp_T}
theorem zo_J0 (hO : zo_K h Y) : ∃ A g, zo_J h h A g A g ∧ zs_P g 0 Y.1 := by
  obtain ⟨A, g, a1, a2, a3, a4, a5, a6, a7, a8, a9, a10, -⟩ := hO
  exact ⟨A, g, ⟨a1, fun _ _ _ _ => rfl, fun _ _ _ => rfl, a8, a10, rfl, rfl, fun _ _ _ _ _ => rfl⟩, a2⟩
theorem zo_Je {hI : zm_H} (kI : zk_I hI Y.2.2.2.2.1) (hO : zo_K h0 Y) (hM0 : zo_M h0 137 A0 g0) (J : zo_J h0 h A0 g0 A g) (hP : zs_P g 0 P) : zo_K h (P, Y.2) ∧ zm_Fr h0 h 137 150 := by
  obtain ⟨j1, j2, j3, j4, j5, j6, j7, j8⟩ := J
  refine ⟨?_, j6, j7, fun b hb => j8 b (by omega) (by omega) (by omega) (by omega)⟩
  obtain ⟨B0, f0, a1, a2, a3, a4, a5, a6, a7, a8, a9, a10, a11, a12, a13, a14, a15⟩ := hO
  obtain ⟨rfl, e4, e5, e19, e25⟩ := zo_gu a1 hM0
  have k := fun (b : Nat) (b1 : 139 ≤ b) (b2 : b ≠ 143) (b3 : b ≠ 145) => j8 b (by omega) (by omega) b2 b3
  exact ⟨A, g, j1, hP, ⟨by rw [j2 4 (by decide) (by decide) (by decide), ← e4]; exact a3.1, by rw [j2 5 (by decide) (by decide) (by decide), ← e5]; exact a3.2.1, by rw [j2 19 (by decide) (by decide) (by decide), ← e19]; exact a3.2.2.1, by rw [j2 25 (by decide) (by decide) (by decide), ← e25]; exact a3.2.2.2⟩, zx_k1 (k 139 (by omega) (by omega) (by omega)) a4, zx_k (k 140 (by omega) (by omega) (by omega)) a5, zx_k (k 141 (by omega) (by omega) (by omega)) a6, zx_k (k 142 (by omega) (by omega) (by omega)) a7, j4, zx_k (k 144 (by omega) (by omega) (by omega)) a9, j5, zx_k (k 146 (by omega) (by omega) (by omega)) a11, fun j hj h1 => zs_Pk (a12 j hj h1) (kI.2.2.2.2 j hj h1).1.1 fun q q1 q2 => j3 q (by omega) (by omega), zx_k (k 147 (by omega) (by omega) (by omega)) a13, zx_k (k 148 (by omega) (by omega) (by omega)) a14, zx_k (k 149 (by omega) (by omega) (by omega)) a15⟩
theorem zo_Jm {h1 : zm_H} {g1 : Nat → Int32} (J : zo_J h0 h A0 g0 A g) (hM : zo_M h1 137 A g1) (hg : ∀ q, 31 ≤ q → q < 93 → g1 q = g q) (hF : zm_Fr h h1 138 139) : zo_J h0 h1 A0 g0 A g1 := by
  obtain ⟨j1, j2, j3, j4, j5, j6, j7, j8⟩ := J
  exact ⟨hM, j2, fun q q1 q2 => (hg q q1 q2).trans (j3 q q1 q2), zx_k1 (hF.2.2 143 (by omega)) j4, zx_k1 (hF.2.2 145 (by omega)) j5, hF.1.trans j6, hF.2.1.trans j7, fun b b1 b2 b3 b4 => (hF.2.2 b (by omega)).trans (j8 b b1 b2 b3 b4)⟩
theorem zo_Js {g2 : Nat → Int32} (J : zo_J h0 h A0 g0 A g) (hg : ∀ q, 31 ≤ q → q < 93 → g2 q = g q) : zo_J h0 (zm_s h (137 + 1) (.inl (0, 186, .inl g2))) A0 g0 A g2 := zo_Jm J ⟨by rw [zg_sn (by omega)]; exact J.1.1, zg_ss⟩ hg (zFr_s (by omega) (by omega))
theorem zo_Jc (J : zo_J h0 h A0 g0 A g) (hP : zs_P g 0 P) (hn : P.1 ≤ 5) {t : Nat} (ht : 93 ≤ t ∧ t + 31 ≤ 186) : ∃ h1 g1, zm_call 160 [.ref 137, .int (0 : Int32), .int (nI t)] h = some (none, h1) ∧ zo_J h0 h1 A0 g0 A g1 ∧ zs_P g1 t P ∧ ∀ q, (q < t ∨ t + 31 ≤ q) → g1 q = g q := by
  obtain ⟨h1, g1, c1, c2, c3, c4, c5⟩ := qm_copies (f := 0) (t := t) (by omega) (by omega) (by omega) J.1
  exact ⟨h1, g1, c1, zo_Jm J c2 (fun q q1 q2 => c4 q (by omega)) c5, zs_Pc hP hn c3, c4⟩
theorem zo_Jd {f N : Nat} (J : zo_J h0 h A0 g0 A g) (hf : f + 31 ≤ 124 ∨ f = 155) (hP : zs_P g f P) (hk : zp_ok P) (hd : P.2.2.2.2 + N < 100000) : ∃ h1 A1 g1 r, zm_call 161 [.ref 137, .int (nI f), .int (nI N)] h = some (none, h1) ∧ zo_J h0 h1 A0 g0 A1 g1 ∧ zs_P g1 124 (zp_run N P) ∧ A1 14 = zp_ruled (-4) N P 0 ∧ A1 15 = zp_rulers N P 0 ∧ A1 16 = zp_chg N P 0 ∧ zm_g h1 143 = .inl (0, 5, .inl r) ∧ (∀ j, j < 5 → r j = zp_ruled (nI j) N P 0) ∧ ∀ q, (q < 124 ∨ 155 ≤ q) → g1 q = g q := by
  obtain ⟨j1, j2, j3, ⟨r, j4⟩, j5, j6, j7, j8⟩ := J
  obtain ⟨h1, A1, g1, r1, d1, d2, d3, d4, d5, d6, d7, d8, d9, d10, d11⟩ := qm_dg (f := f) (N := N) (r := r) hf j1 hP hk hd j4
  exact ⟨h1, A1, g1, r1, d1, ⟨d2, fun c c1 c2 c3 => (d9 c c1 c2 c3).trans (j2 c c1 c2 c3), fun q q1 q2 => (d10 q (by omega)).trans (j3 q q1 q2), ⟨r1, d4⟩, zx_k1 (d11.2.2 145 (by omega) (by omega) (by omega)) j5, d11.1.trans j6, d11.2.1.trans j7, fun b b1 b2 b3 b4 => (d11.2.2 b b1 b2 b3).trans (j8 b b1 b2 b3 b4)⟩, d3, d5, d6, d7, d4, d8, d10⟩
theorem zk_pr {h' : zm_H} {f : zf_T} (hK : zk_K h Y) (hf : zm_g h' 21 = zf_c f) (hF : zm_Fr h h' 21 22) : zk_K h' Y := by
  refine zk_scr hK ?_ (zFr_mn hF (by omega) (by omega))
  obtain ⟨⟨P, a⟩, -, ⟨g, c1, c2⟩, d, ⟨g2, e1, e2⟩, k⟩ := hK.2.2.1
  refine ⟨⟨P, zV_keep a fun b h1 h2 => hF.2.2 b (by omega)⟩, ⟨f, hf⟩, ⟨g, (hF.2.2 22 (by omega)).trans c1, c2⟩, fun j hj => ?_, ⟨g2, (hF.2.2 86 (by omega)).trans e1, e2⟩, fun j hj => ?_⟩
  · obtain ⟨ad, n, v, hW⟩ := d j hj
    exact ⟨ad, n, v, zr_keep hW fun b h1 h2 => hF.2.2 b (by omega)⟩
  · obtain ⟨w, hw⟩ := k j hj
    exact ⟨w, (hF.2.2 _ (by omega)).trans hw⟩
end ZT56
def zf_fall (w d : Nat → Int32) (day : Nat) : Nat → Nat → zf_T → Nat
  | 0, _, _ => 61
  | k + 1, n, f => if f.2.1 ≤ 0 then n else zf_fall w d day k (n + 1) (zf_pass (w ((day + n) % 7)) (d ((day + n) % 7)) f)
def zp_fall (i : Nat) : Nat → Nat → zp_T → Nat
  | 0, _, _ => 61
  | k + 1, n, P => if (P.2.1 i).2.1 ≤ 0 then n else zp_fall i k (n + 1) (zp_pass P)
section ZT56B
variable {h0 h : zm_H} {Y : zy_T} {A0 g0 A g : Nat → Int32} {P : zp_T} {i : Nat}
theorem zp_pass_i (hi : i < P.1) : (zp_pass P).2.1 i = zf_pass (P.2.2.1 (P.2.2.2.2 % 7)) (P.2.2.2.1 (P.2.2.2.2 % 7)) (P.2.1 i) := if_pos hi
theorem zf_fall_p {w d : Nat → Int32} {day : Nat} : ∀ (k n : Nat) (P : zp_T), i < P.1 → P.2.2.1 = w → P.2.2.2.1 = d → P.2.2.2.2 = day + n → zf_fall w d day k n (P.2.1 i) = zp_fall i k n P
  | 0, _, _, _, _, _, _ => rfl
  | k + 1, n, P, hi, hw, hd, hn => by
    unfold zf_fall zp_fall
    by_cases z : (P.2.1 i).2.1 ≤ 0
    · rw [if_pos z, if_pos z]
    · rw [if_neg z, if_neg z, ← zf_fall_p (w := w) (d := d) (day := day) k (n + 1) (zp_pass P) hi hw hd (by show P.2.2.2.2 + 1 = _; omega), zp_pass_i hi, hw, hd, hn]
theorem zp_fall_le : ∀ (k n : Nat) (P : zp_T), n + k = 61 → n ≤ zp_fall i k n P ∧ zp_fall i k n P ≤ 61
  | 0, n, P, h => ⟨by show n ≤ 61; omega, Nat.le_refl _⟩
  | k + 1, n, P, h => by
    unfold zp_fall
    by_cases z : (P.2.1 i).2.1 ≤ 0
    · rw [if_pos z]
      omega
    · rw [if_neg z]
      have := zp_fall_le k (n + 1) (zp_pass P) (by omega)
      omega
theorem zp_run_dead : ∀ (N : Nat) (P : zp_T), i < P.1 → (P.2.1 i).2.1 ≤ 0 → ((zp_run N P).2.1 i).2.1 ≤ 0
  | 0, _, _, h => h
  | N + 1, P, hi, h => by
    refine zp_run_dead N (zp_pass P) hi ?_
    rw [zp_pass_i hi]
    unfold zf_pass
    rw [if_pos h]
    exact h
theorem zp_fall_run : ∀ (k n N : Nat) (P : zp_T), i < P.1 → n + k = 61 → N < k → (n + N < zp_fall i k n P ↔ ¬ ((zp_run N P).2.1 i).2.1 ≤ 0)
  | 0, n, N, P, hi, h, hN => absurd hN (by omega)
  | k + 1, n, N, P, hi, h, hN => by
    unfold zp_fall
    by_cases z : (P.2.1 i).2.1 ≤ 0
    · rw [if_pos z]
      exact ⟨fun q => absurd q (by omega), fun q => absurd (zp_run_dead N P hi z) q⟩
    · rw [if_neg z]
      cases N with
      | zero =>
        have := (zp_fall_le (i := i) k (n + 1) (zp_pass P) (by omega)).1
        exact ⟨fun _ => z, fun _ => by omega⟩
      | succ N =>
        have := zp_fall_run k (n + 1) N (zp_pass P) hi (by omega) (by omega)
        rw [show n + (N + 1) = n + 1 + N by omega]
        exact this
theorem qc_probe_l {F q R : Int32} {gw gd : Nat → Int32} (k0 : zm_g h 0 = .inr (6, zk_c F q R)) (v1 : zm_g h 1 = .inr (1, [.ref (1 + 1), .ref (1 + 8), .ref (1 + 9), .int (nI P.2.2.2.2)])) (hd : P.2.2.2.2 < 1000) (b1 : zm_g h (1 + 8) = .inl (0, 7, .inl gw)) (b2 : ∀ j, j < 7 → gw j = P.2.2.1 j) (b3 : zm_g h (1 + 9) = .inl (0, 7, .inl gd)) (b4 : ∀ j, j < 7 → gd j = P.2.2.2.1 j) : ∀ (k n : Nat) (f : zf_T) (v : Value), n + k = 61 → ∃ f', zm_den 3 111 2 [.ref 0, .int (nI n), v] [] (zm_s h 21 (zf_c f)) = some (some (.int (nI (zf_fall P.2.2.1 P.2.2.2.1 P.2.2.2.2 k n f))), zm_s h 21 (zf_c f')) := by
  have h10 : ¬ (1 : Int32) = 0 := by decide
  intro k
  induction k with
  | zero =>
    intro n f v hn
    have : n = 61 := by omega
    subst this
    refine ⟨f, ?_⟩
    rw [zb111_2, if_pos (by decide), zm_nx, zb111_64, zf_fall]
    exact congrArg (fun x : Int32 => some (some (Value.int x), zm_s h 21 (zf_c f))) (show (61 : Int32) = nI 61 by decide)
  | succ k ih =>
    intro n f v hn
    have st := qc_stands (h := zm_s h 21 (zf_c f)) (a := 21) (f := f) zg_ss
    have hlt : ¬ (60 : Int32) < nI n := nI_nlt (a := 60) (b := n) (by omega) (by decide)
    have rc : ∀ o : zm_O, zq_rc (zf_c f) 0 o = o := fun o => rfl
    have k0' : zm_g (zm_s h 21 (zf_c f)) 0 = _ := (zg_sn (by omega)).trans k0
    by_cases z : f.2.1 ≤ 0
    · refine ⟨f, ?_⟩
      rw [zb111_2, if_neg hlt]
      simp only [zB111, k0', zkr2, zg_ss, rc, st, z, zf_fall, zm_nx, zq_rc_o, zq_bi_o, zq_bl_o, zq_bv_o, not_true_eq_false, not_false_eq_true, if_true, if_false, h10, ite_self]
    · have ps := qc_pass (h := zm_s h 21 (zf_c f)) (a := 21) (f := f) (w := P.2.2.1 ((P.2.2.2.2 + n) % 7)) (d := P.2.2.2.1 ((P.2.2.2.2 + n) % 7)) zg_ss
      rw [zs_ss] at ps
      obtain ⟨f', e⟩ := ih (n + 1) (zf_pass (P.2.2.1 ((P.2.2.2.2 + n) % 7)) (P.2.2.2.1 ((P.2.2.2.2 + n) % 7)) f) (.int (nI ((P.2.2.2.2 + n) % 7))) (by omega)
      refine ⟨f', ?_⟩
      have v1' : zm_g (zm_s h 21 (zf_c f)) 1 = _ := (zg_sn (by omega)).trans v1
      have b1' : zm_g (zm_s h 21 (zf_c f)) (1 + 8) = .inl (0, 7, .inl gw) := by rw [zg_sn (show 1 + 8 ≠ 21 by decide)]; exact b1
      have b3' : zm_g (zm_s h 21 (zf_c f)) (1 + 9) = .inl (0, 7, .inl gd) := by rw [zg_sn (show 1 + 9 ≠ 21 by decide)]; exact b3
      have hm : (P.2.2.2.2 + n) % 7 < 7 := Nat.mod_lt _ (by decide)
      have er : (nI P.2.2.2.2 + nI n) - (nI P.2.2.2.2 + nI n) / 7 * 7 = nI ((P.2.2.2.2 + n) % 7) := by
        rw [nI_add]
        exact zm_rem7 _ (by omega)
      rw [zb111_2, if_neg hlt, zm_nx, zb111_8]
      simp only [k0', zkr2, zg_ss, rc, st, z, if_false, h10, not_false_eq_true, if_true, zq_bi_o, zm_nx]
      rw [zb111_20]
      simp only [k0', zkr0, zkr2, v1', zgi_1_3, zgr_1_1, zgr_1_2, er]
      rw [b1', zq_al_o hm (by decide), b3', zq_al_o hm (by decide), b2 _ hm, b4 _ hm, zg_ss, rc, ps, zq_bv_o, zm_nx, nI_1, zf_fall, if_neg z]
      exact e
theorem qc_probe {f : zf_T} (hK : zk_K h Y) : ∃ h', zm_call 111 [.ref 0] (zm_s h 21 (zf_c f)) = some (some (.int (nI (zf_fall Y.1.2.2.1 Y.1.2.2.2.1 Y.1.2.2.2.2 61 0 f))), h') ∧ zk_K h' Y ∧ zm_Fr h h' 21 22 := by
  obtain ⟨kV, kO, kd⟩ := hK.2.1
  obtain ⟨ad, Q, -, -, v1, v2, v3, v4⟩ := zV_row kV
  obtain ⟨⟨g1, b1, b2⟩, ⟨g2, b3, b4⟩⟩ := zV_arr kV
  obtain ⟨f', e⟩ := qc_probe_l hK.1 v1 kd b1 b2 b3 b4 61 0 f .null (by omega)
  have F : zm_Fr h (zm_s h 21 (zf_c f')) 21 22 := zFr_s (by omega) (by omega)
  refine ⟨_, ?_, zk_pr hK zg_ss F, F⟩
  rw [zc111, zm_nx, zb111_0, zm_nx]
  exact e
theorem qm_fall_l {x1 : Int32} : ∀ (k n : Nat) (h : zm_H) (A g : Nat → Int32) (P : zp_T), n + k = 61 → P.2.2.2.2 + k < 100000 → zp_ok P → i < P.1 → zo_J h0 h A0 g0 A g → zs_P g 124 P → ∃ h' g', zm_den 4 164 9 [.ref 137, .int x1, .int (nI i), .int (nI n)] [] h = some (some (.int (if zp_fall i k n P = 61 then -4 else nI (zp_fall i k n P))), h') ∧ zo_J h0 h' A0 g0 A g' ∧ ∀ q, (q < 124 ∨ 155 ≤ q) → g' q = g q := by
  intro k
  induction k with
  | zero =>
    intro n h A g P hn hd ho hi J hP
    have : n = 61 := by omega
    subst this
    refine ⟨h, g, ?_, J, fun _ _ => rfl⟩
    rw [zb164_9, if_pos (by decide), zm_nx, zb164_42]
    rfl
  | succ k ih =>
    intro n h A g P hn hd ho hi J hP
    have h10 : ¬ (1 : Int32) = 0 := by decide
    have hlt : ¬ (60 : Int32) < nI n := nI_nlt (a := 60) (b := n) (by omega) (by decide)
    have i5 := ho.1
    have q1 : ∀ f : Int32 → zm_O, zq_al (.inl (0, 186, .inl g)) 0 ((129 : Int32) + nI i) f = f (P.2.1 i).2.1 := fun f => zy_al (j := 124 + 5 + i) (nI_add 129 i) (by omega) (by decide) (hP.2.1 i hi).2.1
    rw [zb164_9, if_neg hlt]
    by_cases z : (P.2.1 i).2.1 ≤ 0
    · refine ⟨h, g, ?_, J, fun _ _ => rfl⟩
      have n61 : ¬ n = 61 := by omega
      simp only [zB164, J.1.1, zor0, J.1.2, q1, zf_sz (ho.2.1 i hi), z, zp_fall, n61, zm_nx, zq_rc_o, zq_bi_o, zq_bl_o, zq_bv_o, not_true_eq_false, not_false_eq_true, if_true, if_false, h10, ite_self]
    · obtain ⟨h1, g1, e1, e2, e3, e4, e5⟩ := qm_go J.1 hP (by omega) ho (by omega)
      have e1' : zm_call 141 [.ref 137, .int (124 : Int32)] h = some (none, h1) := e1
      obtain ⟨h', g', d1, d2, d3⟩ := ih (n + 1) h1 A g1 (zp_pass P) (by omega) (by show P.2.2.2.2 + 1 + k < _; omega) (zp_ok_pass ho) hi (zo_Jm J e2 (fun q q1 q2 => e5 q (by omega)) e4) e3
      refine ⟨h', g', ?_, d2, fun q hq => (d3 q hq).trans (e5 q (by omega))⟩
      simp only [zB164, J.1.1, zor0, J.1.2, q1, zf_sz (ho.2.1 i hi), z, e1', nI_1, zp_fall, zm_nx, zq_rc_o, zq_bi_o, zq_bl_o, zq_bv_o, not_true_eq_false, not_false_eq_true, if_true, if_false, h10, ite_self]
      exact d1
theorem zo_Jf {f : Nat} (J : zo_J h0 h A0 g0 A g) (hf : f + 31 ≤ 124 ∨ f = 155) (hP : zs_P g f P) (ho : zp_ok P) (hd : P.2.2.2.2 < 1000) (hi : i < P.1) : ∃ h1 g1, zm_call 164 [.ref 137, .int (nI f), .int (nI i)] h = some (some (.int (if zp_fall i 61 0 P = 61 then -4 else nI (zp_fall i 61 0 P))), h1) ∧ zo_J h0 h1 A0 g0 A g1 ∧ ∀ q, (q < 124 ∨ 155 ≤ q) → g1 q = g q := by
  obtain ⟨h1, g1, c1, c2, c3, c4, c5⟩ := qm_copies (f := f) (t := 124) (by omega) (by omega) (by omega) J.1
  have c1' : zm_call 160 [.ref 137, .int (nI f), .int (124 : Int32)] h = some (none, h1) := c1
  obtain ⟨h2, g2, d1, d2, d3⟩ := qm_fall_l (x1 := nI f) 61 0 h1 A g1 P (by omega) (by omega) ho hi (zo_Jm J c2 (fun q q1 q2 => c4 q (by omega)) c5) (zs_Pc hP ho.1 c3)
  refine ⟨h2, g2, ?_, d2, fun q hq => (d3 q hq).trans (c4 q (by omega))⟩
  rw [zc164, zm_nx, zb164_0]
  simp only [J.1.1, zq_rc_o, c1', zq_bv_o, zm_nx]
  exact d1
theorem zo_Jl {f : Nat} (J : zo_J h0 h A0 g0 A g) (hf : f + 31 ≤ 124 ∨ f = 155) (hP : zs_P g f P) (ho : zp_ok P) (hd : P.2.2.2.2 < 1000) (hi : i < P.1) : ∃ h1 g1, zm_call 174 [.ref 137, .int (nI f), .int (nI i)] h = some (some (.int (nI (zp_fall i 61 0 P))), h1) ∧ zo_J h0 h1 A0 g0 A g1 ∧ ∀ q, (q < 124 ∨ 155 ≤ q) → g1 q = g q := by
  have h10 : ¬ (1 : Int32) = 0 := by decide
  obtain ⟨h1, g1, d1, d2, d3⟩ := zo_Jf J hf hP ho hd hi
  refine ⟨h1, g1, ?_, d2, d3⟩
  have le := (zp_fall_le (i := i) 61 0 P (by omega)).2
  by_cases z : zp_fall i 61 0 P = 61
  · rw [if_pos z] at d1
    rw [z]
    simp only [zc174, zB174, J.1.1, d1, zm_nx, zq_rc_o, zq_bi_o, zq_bl_o, zq_bv_o, not_true_eq_false, not_false_eq_true, if_true, if_false, h10, ite_self]
    rfl
  · rw [if_neg z] at d1
    have n4 := nI_ne4 (j := zp_fall i 61 0 P) (by omega)
    simp only [zc174, zB174, J.1.1, d1, n4, zm_nx, zq_rc_o, zq_bi_o, zq_bl_o, zq_bv_o, not_true_eq_false, not_false_eq_true, if_true, if_false, h10, ite_self]
end ZT56B
