theorem tk_or : ∀ d, d < 7 → ∀ td, td < 128 → (nI td ||| ((1 : Int32) <<< (nI d &&& 31))) = nI (td ||| 2 ^ d) ∧ td ||| 2 ^ d < 128 := by decide +kernel
section ZT81
variable {h h0 : zm_H} {t : tk_T} {p : Nat} {P : zp_T} {a k q v L fa fp : Int32}
theorem tk_n_0 {m : Int32} (e : tk_n t p m = 0) : tk_S t p = 1 ∧ tk_V t p ≤ m := by
  unfold tk_n at e
  by_cases z : tk_S t p = 1
  · rw [if_pos z] at e
    by_cases y : tk_V t p ≤ m
    · exact ⟨z, y⟩
    · rw [if_neg y] at e
      exact absurd e (by decide)
  · rw [if_neg z] at e
    split at e <;> exact absurd e (by decide)
theorem tk_n_v {M : Nat} (hM : M < 1000) (hp : p ≤ t.1) (hb : ∀ j, j < t.1 → ∃ c, c < 128 ∧ t.2 j = nI c) (e : tk_n t p (nI M) = 0) : ∃ v, v ≤ M ∧ tk_V t p = nI v := by
  obtain ⟨h1, h2⟩ := tk_n_0 e
  obtain ⟨v, hv, ev⟩ := tk_V_n hp hb h1
  refine ⟨v, ?_, ev⟩
  rw [ev] at h2
  exact (nI_leI (by omega) (by omega)).mp h2
theorem qr_day {td : Nat} (hp : p ≤ t.1) (hn : t.1 ≤ 160) (htd : td < 128) (hb : ∀ j, j < t.1 → ∃ c, c < 128 ∧ t.2 j = nI c) (R : zc_R h0 h t (nI p) k q v L fa fp (nI td) P) : ∃ h', zm_call 51 [.ref 91] h = some (some (.int (zx_b (decide ((tk_day t p P td).1 = 0)))), h') ∧ ((tk_day t p P td).1 = 0 → ∃ k' q' v', zc_R h0 h' t (nI (tk_day t p P td).2.1) k' q' v' L fa fp (nI (tk_day t p P td).2.2.2) (tk_day t p P td).2.2.1) ∧ (¬ (tk_day t p P td).1 = 0 → zc_F h0 h' t (tk_day t p P td).1 (tk_day t p P td).2.1 L) := by
  have h10 : ¬ (1 : Int32) = 0 := by decide
  have dt : ∀ n : Nat, n = 0 → zx_b (decide (n = 0)) = 1 := fun n hn => by rw [decide_eq_true hn]; rfl
  have df : ∀ n : Nat, ¬ n = 0 → zx_b (decide (n = 0)) = 0 := fun n hn => by rw [decide_eq_false hn]; rfl
  obtain ⟨r1, r2, r3, -⟩ := id R
  have hE := tk_E_le hp
  have hE2 := tk_E_le (t := t) (p := tk_E t p) hE.2.1
  have hE3 := tk_E_le (t := t) (p := tk_E t (tk_E t p)) hE2.2.1
  obtain ⟨h1, w1, e1, R1, F1⟩ := qr_num (m := 6) hp hn R
  have E1 : zm_call 51 [.ref 91] h = (if ¬ zx_b (decide (tk_n t p 6 = 0)) = 0 then zm_den 4 51 11 [.ref 91, .null] [] h1 else zm_den 4 51 9 [.ref 91, .null] [] h1) := by
    rw [zc51, zm_nx, zb51_0, r2, zrrc, e1, zq_bi_o, zm_nx, zm_nx]
  by_cases n1 : tk_n t p 6 = 0
  · have R1 := R1 n1
    obtain ⟨d, hd, ed⟩ := tk_n_v (M := 6) (by decide) hp hb n1
    have edn : tk_dn t p = d := by
      unfold tk_dn
      rw [ed, nI_clamp (by omega)]
    have bit := zx_bit (s := td) (t := d) (by omega) (by omega)
    obtain ⟨x1, x2, x3, -⟩ := id R1
    rw [dt _ n1, if_pos h10, zb51_11] at E1
    simp only [x2, zrg0, x1, ztg5, zrg5, ed, bit, zm_nx] at E1
    by_cases tw : td / 2 ^ d % 2 = 1
    · have er : tk_day t p P td = (4, tk_Q t p, P, td) := by
        unfold tk_day
        rw [if_neg (not_not_intro n1), edn, if_pos tw]
      rw [er]
      obtain ⟨h2, e2, R2⟩ := qr_refuse (c := 4) R1
      rw [tw, if_neg (by decide), zb51_31, x2, zrrc, e2, zq_bi_o, zq_rz_0] at E1
      exact ⟨h2, E1, fun w => absurd (show (4 : Nat) = 0 from w) (by decide), fun _ => ⟨_, _, _, _, _, _, R2⟩⟩
    · have tw0 : td / 2 ^ d % 2 = 0 := by omega
      have or := tk_or d (by omega) td htd
      have R1b := zc_R93 (L' := L) (fa' := fa) (fp' := fp) (td' := nI (td ||| 2 ^ d)) R1
      obtain ⟨h2, w2, e2, R2, F2⟩ := qr_num (m := 9) hE.2.1 hn R1b
      rw [tw0, if_pos (by decide), zb51_37] at E1
      simp only [x2, zrg5, zrp5, or.1, zg_ss, zrrc, e2, zq_bi_o, zm_nx] at E1
      by_cases n2 : tk_n t (tk_E t p) 9 = 0
      · have R2 := R2 n2
        obtain ⟨y1, y2, y3, -⟩ := id R2
        obtain ⟨gw, s1, s2, s3⟩ := zV_sw y3
        obtain ⟨ad2, Q2, -, -, u1, -⟩ := zV_row y3
        have V3 : zp_V (zm_s h2 (94 + 8) (.inl (0, 7, .inl (upd gw d (tk_V t (tk_E t p)))))) 94 (tk_pw P d (tk_V t (tk_E t p))) := by
          refine zV_eq (s3 _ (fun b _ _ hb => zg_sn hb) (upd gw d (tk_V t (tk_E t p))) zg_ss) ⟨rfl, fun _ _ => rfl, fun j hj => ⟨?_, rfl⟩, rfl⟩
          show upd gw d (tk_V t (tk_E t p)) j = upd P.2.2.1 d (tk_V t (tk_E t p)) j
          by_cases z : j = d
          · subst z
            rw [pk_us, pk_us]
          · rw [pk_un z, pk_un z]
            exact s2 j hj
        have R3 := zc_R94 R2 V3 (zFr_s (by omega) (by omega))
        obtain ⟨h3, w3, e3, R3', F3⟩ := qr_num (m := 8) hE2.2.1 hn R3
        rw [dt _ n2, if_pos h10, zb51_60] at E1
        simp only [y2, zrg1, u1, zgr_1_1, zrg0, y1, ztg5, s1, zq_as_o (show d < 7 by omega) (show (7 : Nat) < 2 ^ 31 by decide), zg_sn (show 91 ≠ 94 + 8 by decide), zrrc, e3, zq_bi_o, zm_nx] at E1
        by_cases n3 : tk_n t (tk_E t (tk_E t p)) 8 = 0
        · have R3' := R3' n3
          obtain ⟨z1, z2, z3, -⟩ := id R3'
          obtain ⟨gd, s1', s2', s3'⟩ := zV_sd z3
          obtain ⟨ad3, Q3, -, -, u1', -⟩ := zV_row z3
          have V4 : zp_V (zm_s h3 (94 + 9) (.inl (0, 7, .inl (upd gd d (tk_V t (tk_E t (tk_E t p))))))) 94 (tk_pd (tk_pw P d (tk_V t (tk_E t p))) d (tk_V t (tk_E t (tk_E t p)))) := by
            refine zV_eq (s3' _ (fun b _ _ hb => zg_sn hb) (upd gd d (tk_V t (tk_E t (tk_E t p)))) zg_ss) ⟨rfl, fun _ _ => rfl, fun j hj => ⟨rfl, ?_⟩, rfl⟩
            show upd gd d (tk_V t (tk_E t (tk_E t p))) j = upd P.2.2.2.1 d (tk_V t (tk_E t (tk_E t p))) j
            by_cases z : j = d
            · subst z
              rw [pk_us, pk_us]
            · rw [pk_un z, pk_un z]
              exact s2' j hj
          have R4 := zc_R94 R3' V4 (zFr_s (by omega) (by omega))
          obtain ⟨h4, w4, e4, R4', F4⟩ := qr_sign hE3.2.1 hn R4
          rw [dt _ n3, if_pos h10, zb51_87] at E1
          simp only [z2, zrg1, u1', zgr_1_2, zrg0, z1, ztg5, s1', zq_as_o (show d < 7 by omega) (show (7 : Nat) < 2 ^ 31 by decide), zg_sn (show 91 ≠ 94 + 9 by decide), zrrc, e4, zq_bi_o] at E1
          by_cases n4 : tk_g t (tk_E t (tk_E t (tk_E t p))) = 0
          · have er : tk_day t p P td = (0, tk_E t (tk_E t (tk_E t (tk_E t p))), tk_pd (tk_pw P d (tk_V t (tk_E t p))) d (tk_V t (tk_E t (tk_E t p))), td ||| 2 ^ d) := by
              unfold tk_day
              rw [if_neg (not_not_intro n1), edn, if_neg tw, if_neg (not_not_intro n2), if_neg (not_not_intro n3), if_neg (not_not_intro n4)]
            rw [er]
            rw [dt _ n4] at E1
            exact ⟨h4, E1.trans zq_rz_1, fun _ => ⟨_, _, _, R4' n4⟩, fun w => absurd rfl w⟩
          · have er : tk_day t p P td = (tk_g t (tk_E t (tk_E t (tk_E t p))), tk_Q t (tk_E t (tk_E t (tk_E t p))), P, td) := by
              unfold tk_day
              rw [if_neg (not_not_intro n1), edn, if_neg tw, if_neg (not_not_intro n2), if_neg (not_not_intro n3), if_pos n4]
            rw [er]
            rw [df _ n4] at E1
            refine ⟨h4, ?_, fun w => absurd w n4, fun _ => ⟨_, _, _, _, _, _, F4 n4⟩⟩
            rw [df _ n4]
            exact E1.trans zq_rz_0
        · have er : tk_day t p P td = (tk_n t (tk_E t (tk_E t p)) 8, tk_Q t (tk_E t (tk_E t p)), P, td) := by
            unfold tk_day
            rw [if_neg (not_not_intro n1), edn, if_neg tw, if_neg (not_not_intro n2), if_pos n3]
          rw [er]
          rw [df _ n3, if_neg (not_not_intro rfl), zb51_85] at E1
          refine ⟨h3, ?_, fun w => absurd w n3, fun _ => ⟨_, _, _, _, _, _, F3 n3⟩⟩
          rw [df _ n3]
          exact E1.trans zq_rz_0
      · have er : tk_day t p P td = (tk_n t (tk_E t p) 9, tk_Q t (tk_E t p), P, td) := by
          unfold tk_day
          rw [if_neg (not_not_intro n1), edn, if_neg tw, if_pos n2]
        rw [er]
        rw [df _ n2, if_neg (not_not_intro rfl), zb51_58] at E1
        refine ⟨h2, ?_, fun w => absurd w n2, fun _ => ⟨_, _, _, _, _, _, F2 n2⟩⟩
        rw [df _ n2]
        exact E1.trans zq_rz_0
  · have er : tk_day t p P td = (tk_n t p 6, tk_Q t p, P, td) := by
      unfold tk_day
      rw [if_pos n1]
    rw [er]
    rw [df _ n1, if_neg (not_not_intro rfl), zb51_9] at E1
    refine ⟨h1, ?_, fun w => absurd w n1, fun _ => ⟨_, _, _, _, _, _, F1 n1⟩⟩
    rw [df _ n1]
    exact E1.trans zq_rz_0
theorem qr_kind {q0 e s : Nat} {td : Int32} (hqe : q0 ≤ e) (he : e ≤ t.1) (hn : t.1 ≤ 160) (hs : s < 100) (R : zc_R h0 h t (nI e) (nI s) (nI q0) v L fa fp td P) : zm_call 49 [.ref 91] h = some (some (.int (if (if s = 0 then tk_nm t.2 q0 e else 5) < 4 then nI (if s = 0 then tk_nm t.2 q0 e else 5) else -4)), h) ∧ zm_call 43 [.ref 92, .ref 1000006] h = some (some (.int (zx_b (decide (s = 0) && tk_is t.2 4 q0 e))), h) := by
  obtain ⟨r1, r2, r3, r4, g, r5, r6⟩ := id R
  have nm := fun (j : Nat) (hj : j < 5) => qc_name (n := t.1) (j := j) hj hqe (by omega) hs r1 r5
  have nm' : ∀ j, j < 5 → zm_call 43 [.ref 92, .ref (1000002 + j)] h = some (some (.int (zx_b (decide (s = 0) && tk_is t.2 j q0 e))), h) := fun j hj => by
    rw [nm j hj, tk_is_c hj (b' := t.2) fun i hi => r6 i (by omega)]
  refine ⟨?_, nm' 4 (by decide)⟩
  have n0 : zm_call 43 [.ref 92, .ref 1000002] h = _ := nm' 0 (by decide)
  have n1 : zm_call 43 [.ref 92, .ref 1000003] h = _ := nm' 1 (by decide)
  have n2 : zm_call 43 [.ref 92, .ref 1000004] h = _ := nm' 2 (by decide)
  have n3 : zm_call 43 [.ref 92, .ref 1000005] h = _ := nm' 3 (by decide)
  rw [zc49, zm_nx, zb49_0, r2, zrg0, r1, ztrc, n0, zq_bi_o]
  by_cases z : s = 0
  · subst z
    rw [if_pos rfl]
    have tt : decide (0 = 0) = true := rfl
    rw [tt, Bool.true_and] at n1 n2 n3 ⊢
    unfold tk_nm
    cases i0 : tk_is t.2 0 q0 e with
    | true => rw [if_neg (by decide), zm_nx, zb49_12]; rfl
    | false =>
      rw [if_pos (by decide), zm_nx, zb49_14, r2, zrg0, r1, ztrc, n1, zq_bi_o]
      cases i1 : tk_is t.2 1 q0 e with
      | true => rw [if_neg (by decide), zm_nx, zb49_26]; rfl
      | false =>
        rw [if_pos (by decide), zm_nx, zb49_28, r2, zrg0, r1, ztrc, n2, zq_bi_o]
        cases i2 : tk_is t.2 2 q0 e with
        | true => rw [if_neg (by decide), zm_nx, zb49_40]; rfl
        | false =>
          rw [if_pos (by decide), zm_nx, zb49_42, r2, zrg0, r1, ztrc, n3, zq_bi_o]
          cases i3 : tk_is t.2 3 q0 e with
          | true => rw [if_neg (by decide), zm_nx, zb49_54, zm_nx, zb49_60]; rfl
          | false =>
            rw [if_pos (by decide), zm_nx, zb49_58, zm_nx, zb49_60]
            cases tk_is t.2 4 q0 e <;> rfl
  · rw [decide_eq_false z] at n1 n2 n3 ⊢
    rw [if_neg z, Bool.false_and, if_pos (by decide), zm_nx, zb49_14, r2, zrg0, r1, ztrc, n1, zq_bi_o, Bool.false_and, if_pos (by decide), zm_nx, zb49_28, r2, zrg0, r1, ztrc, n2, zq_bi_o, Bool.false_and, if_pos (by decide), zm_nx, zb49_42, r2, zrg0, r1, ztrc, n3, zq_bi_o, Bool.false_and, if_pos (by decide), zm_nx, zb49_58, zm_nx, zb49_60]
    rfl
end ZT81
