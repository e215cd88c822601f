theorem zp_ok_pass {P : zp_T} (hP : zp_ok P) : zp_ok (zp_pass P) := by
  obtain ⟨h1, h2, h3⟩ := hP
  obtain ⟨⟨a, ha, ea⟩, b, hb, eb⟩ := h3 (P.2.2.2.2 % 7) (Nat.mod_lt _ (by decide))
  refine ⟨h1, fun i hi => ?_, h3⟩
  show zf_ok (if i < P.1 then zf_pass (P.2.2.1 (P.2.2.2.2 % 7)) (P.2.2.2.1 (P.2.2.2.2 % 7)) (P.2.1 i) else P.2.1 i)
  rw [if_pos (show i < P.1 from hi), ea, eb]
  exact zf_ok_pass (h2 i hi) ha hb
theorem zp_ok_run : ∀ (k : Nat) {P : zp_T}, zp_ok P → zp_ok (zp_run k P)
  | 0, _, h => h
  | k + 1, _, h => zp_ok_run k (zp_ok_pass h)
section ZPAGE2
variable {h : zm_H} {m s : Nat} {fs : List Value} {g : Nat → Int32} {p : Nat} {P : zp_T}
theorem zm_leanM (x1 x2 x3 x4 x5 : Int32) : (if x5 ≤ (20 : Int32) then zm_nx 2 140 88 [.ref m, .int x1, .int x2, .int x3, .int x4, .int x5] [] h else zm_nx 2 140 83 [.ref m, .int x1, .int x2, .int x3, .int x4, .int x5] [] h) = zm_den 2 140 102 [.ref m, .int x1, .int x2, .int x3, .int x4, .int x5] [.int (zf_leanM x5)] h := by
  by_cases h1 : x5 ≤ 20
  · by_cases h2 : -20 ≤ x5
    · simp only [h1, h2, if_true, zm_nx, zb140_88, zb140_100, zf_leanM]
    · simp only [h1, h2, if_true, if_false, zm_nx, zb140_88, zb140_95, zf_leanM]
  · simp only [h1, if_false, zm_nx, zb140_83, zf_leanM]
theorem qm_day_b {i a b : Nat} {v : Value} (hM : zs_M h m s fs g) (hP : zs_P g p P) (hp : p + 31 ≤ 186) (hk : zp_ok P) (hi : i < P.1) (ha : a < 10) (hb : b < 9) : ∃ h1 g1 v', zm_den 2 140 17 [.ref m, .int (nI p), .int (nI a), .int (nI b - 4), .int (nI i), v] [] h = zm_den 2 140 3 [.ref m, .int (nI p), .int (nI a), .int (nI b - 4), .int (nI (i + 1)), v'] [] h1 ∧ zs_M h1 m s fs g1 ∧ zs_P g1 p (P.1, (fun j => if j = i then zf_pass (nI a) (nI b) (P.2.1 j) else P.2.1 j), P.2.2) ∧ zm_Fr h h1 s (s + 1) ∧ ∀ q, (q < p ∨ p + 31 ≤ q) → g1 q = g q := by
  have hn := hk.1
  obtain ⟨k, z, l, hk1, hz1, hl1, hfi⟩ := hk.2.1 i hi
  have ek : g (p + i) = nI k := by have := (hP.2.1 i hi).1; rw [hfi] at this; exact this
  have ez : g (p + 5 + i) = nI z := by have := (hP.2.1 i hi).2.1; rw [hfi] at this; exact this
  have el : g (p + 10 + i) = nI l - 20 := by have := (hP.2.1 i hi).2.2; rw [hfi] at this; exact this
  have hms := qm_melts (p := p) (i := i) (w := nI a) hM (by omega)
  have M0 := hM
  obtain ⟨h1, h2, h3⟩ := hM
  have q5 : p + 5 + i < 186 := by omega
  have q10 : p + 10 + i < 186 := by omega
  have hc : (186 : Nat) < 2 ^ 31 := by decide
  by_cases h0 : nI z ≤ 0
  · refine ⟨h, g, v, ?_, M0, ?_, zFr_rf _ _ _, fun _ _ => rfl⟩
    · rw [zb140_17]
      simp only [h2, zgr_70, h3, nI_5, zq_al_o q5 hc, ez, h0, if_true, zm_nx, zb140_177, nI_1]
    · have : (fun j => if j = i then zf_pass (nI a) (nI b) (P.2.1 j) else P.2.1 j) = P.2.1 := by
        funext j
        by_cases e : j = i
        · subst e
          rw [if_pos rfl, hfi]
          exact if_pos h0
        · rw [if_neg e]
      rw [this]
      exact hP
  · have M1 := zs_Ms M0 (upd g (p + 5 + i) (nI z - zf_meltM (nI k) (nI z) (nI a)))
    have hts := qm_tips (p := p) (i := i) (w := nI b - 4) M1 (by omega)
    have u1 : upd g (p + 5 + i) (nI z - zf_meltM (nI k) (nI z) (nI a)) (p + i) = nI k := by rw [pk_un (by omega)]; exact ek
    have u2 : upd g (p + 5 + i) (nI z - zf_meltM (nI k) (nI z) (nI a)) (p + 10 + i) = nI l - 20 := by rw [pk_un (by omega)]; exact el
    rw [u1] at hts
    rw [ek, ez] at hms
    obtain ⟨L, eL⟩ : ∃ L, L = zf_leanM ((nI l - 20) + zf_tipM (nI k) (nI b - 4)) := ⟨_, rfl⟩
    obtain ⟨S, eS⟩ : ∃ S, S = nI z - zf_meltM (nI k) (nI z) (nI a) := ⟨_, rfl⟩
    rw [← eS] at M1 hts u1 u2
    have M2 := zs_Ms M1 (upd (upd g (p + 5 + i) S) (p + 10 + i) L)
    have u3 : upd (upd g (p + 5 + i) S) (p + 10 + i) L (p + 5 + i) = S := by rw [pk_un (by omega)]; exact pk_us
    have M3 := zs_Ms M2 (upd (upd (upd g (p + 5 + i) S) (p + 10 + i) L) (p + 5 + i) (zf_fallM L S))
    rw [zs_ss] at M2 M3
    rw [zs_ss] at M3
    refine ⟨_, _, .int L, ?_, M3, ?_, zFr_s (Nat.le_refl s) (by omega), ?_⟩
    · rw [zb140_17]
      simp only [h2, zgr_70, h3, nI_5, zq_al_o q5 hc, ez, h0, if_false, zm_nx]
      rw [zb140_31]
      simp only [h2, zgr_70, h3, nI_5, nI_10, zq_al_o q5 hc, ez, zq_rc_o, hms, zq_bi_o, zq_as_o q5 hc, ← eS, M1.2.1, M1.2.2, zq_al_o q10 hc, u2, hts]
      rw [zm_leanM, ← eL, zb140_102]
      simp only [M1.2.1, zgr_70, M1.2.2, nI_10, nI_5, zq_as_o q10 hc, zs_ss, M2.2.1, M2.2.2, zq_al_o q5 hc, u3]
      by_cases c1 : S < L
      · simp only [c1, if_true, zm_nx, zb140_161, zb140_176, M2.2.2, zq_as_o q5 hc, zs_ss, zb140_177, nI_1, zf_fallM]
      · by_cases c2 : -L ≤ S
        · simp only [c1, c2, if_true, if_false, zm_nx, zb140_144, M2.2.1, zgr_70, M2.2.2, nI_5, zq_al_o q5 hc, u3, zb140_165, zb140_176, zq_as_o q5 hc, zs_ss, zb140_177, nI_1, zf_fallM]
        · simp only [c1, c2, if_true, if_false, zm_nx, zb140_144, M2.2.1, zgr_70, M2.2.2, nI_5, zq_al_o q5 hc, u3, zb140_161, zb140_176, zq_as_o q5 hc, zs_ss, zb140_177, nI_1, zf_fallM]
    · have hu : ∀ q, q ≠ p + 5 + i → q ≠ p + 10 + i → upd (upd (upd g (p + 5 + i) S) (p + 10 + i) L) (p + 5 + i) (zf_fallM L S) q = g q := fun q a5 a10 => by rw [pk_un a5, pk_un a10, pk_un a5]
      refine ⟨?_, fun j hj => ?_, fun d hd => ⟨?_, ?_⟩, ?_⟩
      · rw [hu _ (by omega) (by omega)]; exact hP.1
      · have hj' : j < P.1 := hj
        by_cases e : j = i
        · subst e
          show _ = (if j = j then zf_pass (nI a) (nI b) (P.2.1 j) else P.2.1 j).1 ∧ _ = (if j = j then zf_pass (nI a) (nI b) (P.2.1 j) else P.2.1 j).2.1 ∧ _ = (if j = j then zf_pass (nI a) (nI b) (P.2.1 j) else P.2.1 j).2.2 - 20
          rw [if_pos rfl, hfi, zf_pass_M hk1 hz1 hl1 ha hb h0, ← eL, ← eS]
          refine ⟨?_, pk_us, ?_⟩
          · rw [hu _ (by omega) (by omega)]; exact ek
          · rw [pk_un (by omega), pk_us]
            exact (Int32.add_sub_cancel L 20).symm
        · show _ = (if j = i then zf_pass (nI a) (nI b) (P.2.1 j) else P.2.1 j).1 ∧ _ = (if j = i then zf_pass (nI a) (nI b) (P.2.1 j) else P.2.1 j).2.1 ∧ _ = (if j = i then zf_pass (nI a) (nI b) (P.2.1 j) else P.2.1 j).2.2 - 20
          rw [if_neg e, hu _ (by omega) (by omega), hu _ (by omega) (by omega), hu _ (by omega) (by omega)]
          exact hP.2.1 j hj'
      · rw [hu _ (by omega) (by omega)]; exact (hP.2.2.1 d hd).1
      · rw [hu _ (by omega) (by omega)]; exact (hP.2.2.1 d hd).2
      · rw [hu _ (by omega) (by omega)]; exact hP.2.2.2
    · intro q hq
      rw [pk_un (by omega), pk_un (by omega), pk_un (by omega)]
theorem qm_day_l {a b : Nat} (hp : p + 31 ≤ 186) (ha : a < 10) (hb : b < 9) : ∀ (k i : Nat) (h : zm_H) (g : Nat → Int32) (v : Value) (P : zp_T), i + k = P.1 → zs_M h m s fs g → zs_P g p P → zp_ok P → ∃ h' g', zm_den 2 140 3 [.ref m, .int (nI p), .int (nI a), .int (nI b - 4), .int (nI i), v] [] h = some (none, h') ∧ zs_M h' m s fs g' ∧ zs_P g' p (P.1, (fun j => if i ≤ j ∧ j < P.1 then zf_pass (nI a) (nI b) (P.2.1 j) else P.2.1 j), P.2.2.1, P.2.2.2.1, P.2.2.2.2 + 1) ∧ zm_Fr h h' s (s + 1) ∧ ∀ q, (q < p ∨ p + 31 ≤ q) → g' q = g q := by
  have hc : (186 : Nat) < 2 ^ 31 := by decide
  intro k
  induction k with
  | zero =>
    intro i h g v P hi hM hP hk
    have hn := hk.1
    refine ⟨_, _, ?_, zs_Ms hM (upd g (p + 30) (nI (P.2.2.2.2 + 1))), ?_, zFr_s (Nat.le_refl s) (by omega), fun q hq => pk_un (by omega)⟩
    · rw [zb140_3]
      simp only [hM.2.1, zgr_70, hM.2.2, nI_15, zq_al_o (show p + 15 < 186 by omega) hc, hP.1, nI_le5 hn (show i ≤ 5 by omega), show P.1 ≤ i by omega, if_true, zm_nx, zb140_183, nI_30, zq_al_o (show p + 30 < 186 by omega) hc, hP.2.2.2, nI_1, zq_as_o (show p + 30 < 186 by omega) hc]
    · have hu : ∀ q, q ≠ p + 30 → upd g (p + 30) (nI (P.2.2.2.2 + 1)) q = g q := fun q h => pk_un h
      refine ⟨by rw [hu _ (by omega)]; exact hP.1, fun j hj => ?_, fun d hd => ?_, pk_us⟩
      · have hj' : j < P.1 := hj
        show _ = (if i ≤ j ∧ j < P.1 then zf_pass (nI a) (nI b) (P.2.1 j) else P.2.1 j).1 ∧ _ = (if i ≤ j ∧ j < P.1 then zf_pass (nI a) (nI b) (P.2.1 j) else P.2.1 j).2.1 ∧ _ = (if i ≤ j ∧ j < P.1 then zf_pass (nI a) (nI b) (P.2.1 j) else P.2.1 j).2.2 - 20
        rw [if_neg (by omega), hu _ (by omega), hu _ (by omega), hu _ (by omega)]
        exact hP.2.1 j hj'
      · rw [hu _ (by omega), hu _ (by omega)]
        exact hP.2.2.1 d hd
  | succ k ih =>
    intro i h g v P hi hM hP hk
    have hn := hk.1
    obtain ⟨h1, g1, v', e1, e2, e3, e4, e5⟩ := qm_day_b (v := v) (i := i) hM hP hp hk (by omega) ha hb
    have hk' : zp_ok (P.1, (fun j => if j = i then zf_pass (nI a) (nI b) (P.2.1 j) else P.2.1 j), P.2.2) := by
      refine ⟨hk.1, fun j hj => ?_, hk.2.2⟩
      show zf_ok (if j = i then zf_pass (nI a) (nI b) (P.2.1 j) else P.2.1 j)
      by_cases e : j = i
      · rw [if_pos e]
        exact zf_ok_pass (hk.2.1 j hj) ha hb
      · rw [if_neg e]
        exact hk.2.1 j hj
    obtain ⟨h', g', d1, d2, d3, d4, d5⟩ := ih (i + 1) h1 g1 v' _ (by show i + 1 + k = P.1; omega) e2 e3 hk'
    refine ⟨h', g', ?_, d2, ?_, zFr_tr e4 d4, fun q hq => (d5 q hq).trans (e5 q hq)⟩
    · rw [zb140_3]
      simp only [hM.2.1, zgr_70, hM.2.2, nI_15, zq_al_o (show p + 15 < 186 by omega) hc, hP.1, nI_le5 hn (show i ≤ 5 by omega), show ¬ P.1 ≤ i by omega, if_false, zm_nx]
      rw [e1]
      exact d1
    · have : (fun j => if i ≤ j ∧ j < P.1 then zf_pass (nI a) (nI b) (P.2.1 j) else P.2.1 j) = (fun j => if i + 1 ≤ j ∧ j < P.1 then zf_pass (nI a) (nI b) (if j = i then zf_pass (nI a) (nI b) (P.2.1 j) else P.2.1 j) else (if j = i then zf_pass (nI a) (nI b) (P.2.1 j) else P.2.1 j)) := by
        funext j
        by_cases e : j = i
        · subst e
          rw [if_pos ⟨Nat.le_refl _, by omega⟩, if_neg (by omega), if_pos rfl]
        · rw [if_neg e]
          by_cases e2 : i + 1 ≤ j ∧ j < P.1
          · rw [if_pos e2, if_pos (by omega)]
          · rw [if_neg e2, if_neg (by omega)]
      rw [this]
      exact d3
theorem qm_day {a b : Nat} (hM : zs_M h m s fs g) (hP : zs_P g p P) (hp : p + 31 ≤ 186) (hk : zp_ok P) (ha : a < 10) (hb : b < 9) : ∃ h' g', zm_call 140 [.ref m, .int (nI p), .int (nI a), .int (nI b - 4)] h = some (none, h') ∧ zs_M h' m s fs g' ∧ zs_P g' p (P.1, zr_pass (nI a) (nI b) P.1 P.2.1, P.2.2.1, P.2.2.2.1, P.2.2.2.2 + 1) ∧ zm_Fr h h' s (s + 1) ∧ ∀ q, (q < p ∨ p + 31 ≤ q) → g' q = g q := by
  obtain ⟨h', g', d1, d2, d3, d4, d5⟩ := qm_day_l hp ha hb P.1 0 h g .null P (by omega) hM hP hk
  refine ⟨h', g', ?_, d2, ?_, d4, d5⟩
  · rw [zc140, zm_nx, zb140_0, zm_nx]
    exact d1
  · have : zr_pass (nI a) (nI b) P.1 P.2.1 = (fun j => if 0 ≤ j ∧ j < P.1 then zf_pass (nI a) (nI b) (P.2.1 j) else P.2.1 j) := by
      funext j
      show (if j < P.1 then zf_pass (nI a) (nI b) (P.2.1 j) else P.2.1 j) = _
      by_cases e : j < P.1
      · rw [if_pos e, if_pos ⟨Nat.zero_le _, e⟩]
      · rw [if_neg e, if_neg (by omega)]
    rw [this]
    exact d3
theorem qm_goes (hM : zs_M h m s fs g) (hP : zs_P g p P) (hp : p + 31 ≤ 186) (hk : zp_ok P) (hd : P.2.2.2.2 < 100000) : ∃ h' g', zm_call 141 [.ref m, .int (nI p)] h = some (none, h') ∧ zs_M h' m s fs g' ∧ zs_P g' p (zp_pass P) ∧ zm_Fr h h' s (s + 1) ∧ ∀ q, (q < p ∨ p + 31 ≤ q) → g' q = g q := by
  have hw := qm_warm hM hP hp hd
  have hv := qm_wind hM hP hp hd
  obtain ⟨⟨a, ha, ea⟩, b, hb, eb⟩ := hk.2.2 (P.2.2.2.2 % 7) (Nat.mod_lt _ (by decide))
  obtain ⟨h', g', d1, d2, d3, d4, d5⟩ := qm_day hM hP hp hk ha hb
  rw [ea] at hw
  rw [eb] at hv
  refine ⟨h', g', ?_, d2, ?_, d4, d5⟩
  · rw [zc141, zm_nx, zb141_0]
    simp only [hM.2.1, zq_rc_o, hw, zq_bi_o, hv, d1, zq_bv_o]
  · have : zp_pass P = (P.1, zr_pass (nI a) (nI b) P.1 P.2.1, P.2.2.1, P.2.2.2.1, P.2.2.2.2 + 1) := by
      unfold zp_pass
      rw [ea, eb]
    rw [this]
    exact d3
theorem qm_dec (hM : zs_M h m s fs g) (hP : zs_P g p P) (hp : p + 31 ≤ 186) (hn : P.1 ≤ 5) : zm_call 144 [.ref m, .int (nI p)] h = some (some (.int (zp_dec P)), h) := by
  have hr := qm_reign hM hP hp hn
  have hc : (186 : Nat) < 2 ^ 31 := by decide
  rw [zc144, zm_nx, zb144_0]
  simp only [hM.2.1, zq_rc_o, hr, zq_bi_o]
  by_cases e : zp_reign P = -4
  · simp only [e, not_true_eq_false, if_false, zm_nx, zb144_12, zb144_33, zp_dec, zr_dec, show zr_reign P.1 P.2.1 = -4 from e]
  · rcases zr_reign_spec P.1 P.2.1 with e' | ⟨j, hj, e'⟩
    · exact absurd e' e
    · have e2 : zp_reign P = nI j := e'
      have hq : p + 10 + j < 186 := by omega
      simp only [e2, nI_ne4 (show j < 2 ^ 31 by omega), not_false_eq_true, if_true, zm_nx, zb144_17, hM.2.1, zgr_70, hM.2.2, nI_10, zq_al_o hq hc, (hP.2.1 j hj).2.2, Int32.sub_add_cancel, zb144_33, zp_dec, zr_dec, e', nI_clamp (show j < 2 ^ 31 by omega)]
end ZPAGE2
