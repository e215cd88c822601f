def tk_t (t : tk_T) (p td : Nat) : tk_M := if tk_n t p 6 = 0 ∧ td / 2 ^ tk_dn t p % 2 = 1 then .inr (4, tk_Q t p) else .inl p
section ZT86
variable {h h0 : zm_H} {t : tk_T} {A0 g0 A r : Nat → Int32} {p : Nat} {P : zp_T}
theorem qm_num {M : Nat} {m : Int32} {s : tk_M} (hm : m = nI M) (hM : M < 1000) (B : zo_B h0 t A0) (Q : zo_Q h0 h A0 g0 A r) (S : zo_St t A s) : ∃ h' A', zm_call 130 [.ref 137, .int 0, .int m] h = some (some (.int (tk_nv t s m)), h') ∧ zo_Q h0 h' A0 g0 A' r ∧ zo_St t A' (tk_nx t s m) ∧ A' 2 = A 2 := by
  subst hm
  exact qm_number hM B Q S
theorem tk_nv_b {M : Nat} {m : Int32} {s : tk_M} (hm : m = nI M) (hM : M < 1000) (B : zo_B h0 t A0) (S : zo_St t A s) : ∃ d, d ≤ M ∧ tk_nv t s m = nI d := by
  subst hm
  match s, S with
  | .inr c, _ => exact ⟨0, Nat.zero_le _, rfl⟩
  | .inl p, S =>
    by_cases z : tk_n t p (nI M) = 0
    · obtain ⟨v, hv, ev⟩ := tk_n_v hM S.1 B.2.2.1 z
      exact ⟨v, hv, (show tk_nv t (.inl p) (nI M) = tk_V t p from if_pos z).trans ev⟩
    · exact ⟨0, Nat.zero_le _, (show tk_nv t (.inl p) (nI M) = 0 from if_neg z)⟩
theorem zs_Padd0 {f : zf_T} (hP : zs_P r 0 P) (hn : P.1 < 5) : zs_P (upd (upd (upd (upd r P.1 f.1) (5 + P.1) f.2.1) (10 + P.1) (f.2.2 - 20)) 15 (nI (P.1 + 1))) 0 (zp_add P f) := by
  have kk : ∀ q, q ≠ P.1 → q ≠ 5 + P.1 → q ≠ 10 + P.1 → q ≠ 15 → upd (upd (upd (upd r P.1 f.1) (5 + P.1) f.2.1) (10 + P.1) (f.2.2 - 20)) 15 (nI (P.1 + 1)) q = r q := fun q q1 q2 q3 q4 => by rw [pk_un q4, pk_un q3, pk_un q2, pk_un q1]
  refine ⟨by rw [Nat.zero_add, pk_us]; rfl, fun j hj => ?_, fun d hd => ?_, by rw [kk _ (by omega) (by omega) (by omega) (by omega)]; exact hP.2.2.2⟩
  · have hj' : j < P.1 + 1 := hj
    show _ = (if j = P.1 then f else P.2.1 j).1 ∧ _ = (if j = P.1 then f else P.2.1 j).2.1 ∧ _ = (if j = P.1 then f else P.2.1 j).2.2 - 20
    by_cases e : j = P.1
    · subst e
      rw [if_pos rfl]
      refine ⟨?_, ?_, ?_⟩
      · rw [Nat.zero_add, pk_un (by omega), pk_un (by omega), pk_un (by omega), pk_us]
      · rw [Nat.zero_add, pk_un (by omega), pk_un (by omega), pk_us]
      · rw [Nat.zero_add, pk_un (by omega), pk_us]
    · rw [if_neg e, kk _ (by omega) (by omega) (by omega) (by omega), kk _ (by omega) (by omega) (by omega) (by omega), kk _ (by omega) (by omega) (by omega) (by omega)]
      exact hP.2.1 j (by omega)
  · rw [kk _ (by omega) (by omega) (by omega) (by omega), kk _ (by omega) (by omega) (by omega) (by omega)]
    exact hP.2.2.1 d hd
theorem zs_Pwd0 {d : Nat} {x y : Int32} (hd : d < 7) (hP : zs_P r 0 P) (hn : P.1 ≤ 5) : zs_P (upd (upd r (16 + d) (x - 1)) (23 + d) (y - 4)) 0 (tk_pd (tk_pw P d x) d y) := by
  have P1 : zs_P (upd r (16 + d) (x - 1)) 0 (tk_pw P d x) := by
    refine zs_Psw hP hn (fun q q1 q2 q3 => pk_un (by omega)) fun e he => ?_
    by_cases z : e = d
    · subst z
      rw [Nat.zero_add, pk_us, pk_us]
    · rw [pk_un (by omega), pk_un z]
      exact (hP.2.2.1 e he).1
  refine zs_Psd P1 hn (fun q q1 q2 q3 => pk_un (by omega)) fun e he => ?_
  by_cases z : e = d
  · subst z
    rw [Nat.zero_add, pk_us, pk_us]
  · rw [pk_un (by omega), pk_un z]
    exact (P1.2.2.1 e he).2
theorem qm_more_f {kd : Nat} {s : tk_M} (hk : kd < 4) (B : zo_B h0 t A0) (Q : zo_Q h0 h A0 g0 A r) (S : zo_St t A s) (hP : zs_P r 0 P) (hn : P.1 < 5) : ∃ h' A' r', zm_call 131 [.ref 137, .int (nI kd)] h = some (none, h') ∧ zo_Q h0 h' A0 g0 A' r' ∧ zo_St t A' (tk_nx t (tk_nx t s 99) 40) ∧ A' 2 = A 2 ∧ zs_P r' 0 (zp_add P (nI kd, tk_nv t s 99, tk_nv t (tk_nx t s 99) 40)) := by
  have c31 : (31 : Nat) < 2 ^ 31 := by decide
  have r15 : r 15 = nI P.1 := hP.1
  have c0 : zm_g h (137 + 2) = .inl (0, 31, .inl r) := Q.2.1
  have Q1 := zo_Qr (r' := upd r P.1 (nI kd)) Q
  obtain ⟨h2, A2, e1, Q2, S2, t2⟩ := qm_num (m := 99) (M := 99) rfl (by decide) B Q1 S
  have c2 : zm_g h2 (137 + 2) = .inl (0, 31, .inl (upd r P.1 (nI kd))) := Q2.2.1
  have Q3 := zo_Qr (r' := upd (upd r P.1 (nI kd)) (5 + P.1) (tk_nv t s 99)) Q2
  obtain ⟨h4, A4, e2, Q4, S4, t4⟩ := qm_num (m := 40) (M := 40) rfl (by decide) B Q3 S2
  have c4 : zm_g h4 (137 + 2) = .inl (0, 31, .inl (upd (upd r P.1 (nI kd)) (5 + P.1) (tk_nv t s 99))) := Q4.2.1
  have Q5 := zo_Qr (r' := upd (upd (upd r P.1 (nI kd)) (5 + P.1) (tk_nv t s 99)) (10 + P.1) (tk_nv t (tk_nx t s 99) 40 - 20)) Q4
  have Q6 := zo_Qr (r' := upd (upd (upd (upd r P.1 (nI kd)) (5 + P.1) (tk_nv t s 99)) (10 + P.1) (tk_nv t (tk_nx t s 99) 40 - 20)) 15 (nI (P.1 + 1))) Q5
  have a5 : (5 : Int32) + nI P.1 = nI (5 + P.1) := nI_add 5 P.1
  have a10 : (10 : Int32) + nI P.1 = nI (10 + P.1) := nI_add 10 P.1
  have v15 : upd (upd (upd r P.1 (nI kd)) (5 + P.1) (tk_nv t s 99)) (10 + P.1) (tk_nv t (tk_nx t s 99) 40 - 20) 15 = nI P.1 := by rw [pk_un (by omega), pk_un (by omega), pk_un (by omega)]; exact r15
  have al15 : ∀ (w : Nat → Int32) (f : Int32 → zm_O), zq_al (.inl (0, 31, .inl w)) 0 (15 : Int32) f = f (w 15) := fun w f => zq_al_o (j := 15) (by decide) c31
  have as15 : ∀ (w : Nat → Int32) (x : Int32) (f : va_E → zm_O), zq_as (.inl (0, 31, .inl w)) 0 (15 : Int32) x f = f (.inl (0, 31, .inl (upd w 15 x))) := fun w x f => zq_as_o (j := 15) (by decide) c31
  refine ⟨_, _, _, ?_, Q6, S4, t4.trans t2, zs_Padd0 (f := (nI kd, tk_nv t s 99, tk_nv t (tk_nx t s 99) 40)) hP hn⟩
  rw [zc131, zm_nx, zb131_0, if_neg (show ¬ (3 : Int32) < nI kd from nI_nlt (a := 3) (by omega) (by decide)), zm_nx, zb131_5, Q.1.1, zor1, c0, al15, r15, zor1, c0, zq_as_o (show P.1 < 31 by omega) c31, Q1.1.1, zor1, zq_rc_o, e1, zq_bi_o, c2, a5, zq_as_o (show 5 + P.1 < 31 by omega) c31, Q3.1.1, zor1, zq_rc_o, e2, zq_bi_o, c4, a10, zq_as_o (show 10 + P.1 < 31 by omega) c31, Q5.1.1, zor1, zg_ss, al15, v15, nI_1, as15]
theorem qm_told {td : Nat} (htd : td < 128) (B : zo_B h0 t A0) (Q : zo_Q h0 h A0 g0 A r) (S : zo_St t A (.inl p)) (h2 : A 2 = nI td) : ∃ h1 A1, zm_call 131 [.ref 137, .int (nI 4)] h = zm_den 4 131 116 [.ref 137, .int (nI 4), .null] [] h1 ∧ zo_Q h0 h1 A0 g0 A1 r ∧ zo_St t A1 (tk_t t p td) ∧ A1 2 = nI td := by
  have h10 : ¬ (1 : Int32) = 0 := by decide
  have S' := S
  obtain ⟨hp, l8, l9, lw, lr⟩ := S
  have E0 : zm_call 131 [.ref 137, .int (nI 4)] h = zm_den 4 131 66 [.ref 137, .int (nI 4), .null] [] h := by
    rw [zc131, zm_nx, zb131_0, if_pos (by decide), zm_nx]
  by_cases z : tk_S t p = 3
  · have en : ¬ tk_n t p 6 = 0 := by
      unfold tk_n
      rw [if_neg (by omega), if_pos z]
      decide
    refine ⟨h, A, ?_, Q, by rw [show tk_t t p td = .inl p from if_neg fun w => en w.1]; exact S', h2⟩
    rw [E0, zb131_66, Q.1.1, zoi6, (lw z).1, if_pos h10, zm_nx]
  · obtain ⟨s6, s10, s11⟩ := lr z
    have sl := tk_S_lt (t := t) (p := p)
    by_cases y : tk_S t p = 1
    · have k2 : A 10 = 2 := by rw [s10, y]; decide
      have v11 := s11 y
      obtain ⟨v, hv, ev⟩ := tk_V_n hp B.2.2.1 y
      have m0 := qm_in (h := h) (nI v) 0 6 (0 : Int64) (6 : Int64) (by decide) (by decide)
      have E1 : zm_call 131 [.ref 137, .int (nI 4)] h = if zw_in (nI v) 0 6 = 0 then zm_den 4 131 116 [.ref 137, .int (nI 4), .null] [] h else zm_den 4 131 96 [.ref 137, .int (nI 4), .null] [] h := by
        rw [E0, zb131_66, Q.1.1, zoi6, s6, if_neg (by decide), zm_nx, zb131_73, Q.1.1, zoi10, k2, if_neg (by decide), zm_nx, zb131_81, Q.1.1, zoi11, v11, ev, m0, zq_bi_o, zm_nx, zm_nx]
      by_cases x : v ≤ 6
      · have en : tk_n t p 6 = 0 := by
          unfold tk_n
          rw [if_pos y, ev, if_pos (show nI v ≤ (6 : Int32) from nI_le (b := 6) x (by decide))]
        have iw : ¬ zw_in (nI v) 0 6 = 0 := by
          unfold zw_in
          rw [if_neg (nI_pos (by omega)), if_neg (show ¬ (6 : Int32) < nI v from nI_nlt (a := 6) x (by decide))]
          exact h10
        have edn : tk_dn t p = v := by
          unfold tk_dn
          rw [ev, nI_clamp (by omega)]
        have bit := zx_bit (s := td) (t := v) (by omega) (by omega)
        rw [if_neg iw, zb131_96, Q.1.1, zoi2, h2, zoi11, v11, ev, bit] at E1
        by_cases tw : td / 2 ^ v % 2 = 1
        · obtain ⟨h', A', f1, Q', f6, f7, fk⟩ := qm_fails (c := 4) Q s6
          rw [tw, if_neg (by decide), zm_nx, zb131_111, Q.1.1, zq_rc_o, f1, zq_bv_o, zm_nx] at E1
          refine ⟨h', A', E1, Q', ?_, by rw [fk 2 (by decide) (by decide)]; exact h2⟩
          rw [show tk_t t p td = .inr (4, tk_Q t p) from if_pos ⟨en, by rw [edn]; exact tw⟩]
          exact ⟨f6, by rw [f7]; exact l9, (show 0 < 4 by decide), (show 4 < 100 by decide)⟩
        · have tw0 : td / 2 ^ v % 2 = 0 := by omega
          rw [tw0, if_pos (by decide), zm_nx] at E1
          exact ⟨h, A, E1, Q, by rw [show tk_t t p td = .inl p from if_neg fun w => tw (by rw [edn] at w; exact w.2)]; exact S', h2⟩
      · have en : ¬ tk_n t p 6 = 0 := by
          unfold tk_n
          rw [if_pos y, ev, if_neg (show ¬ nI v ≤ (6 : Int32) from nI_ge (a := 6) (by omega) (by omega))]
          decide
        have iw : zw_in (nI v) 0 6 = 0 := by
          unfold zw_in
          rw [if_neg (nI_pos (by omega)), if_pos (show (6 : Int32) < nI v from nI_lt (a := 6) (by omega) (by omega))]
        rw [if_pos iw] at E1
        exact ⟨h, A, E1, Q, by rw [show tk_t t p td = .inl p from if_neg fun w => en w.1]; exact S', h2⟩
    · have k2 : ¬ A 10 = 2 := by
        rw [s10]
        have : ∀ s, s < 5 → ¬ s = 1 → ¬ s = 3 → ¬ nI (tk_K s) = (2 : Int32) := by decide
        exact this _ sl y z
      have en : ¬ tk_n t p 6 = 0 := by
        unfold tk_n
        rw [if_neg y, if_neg z]
        decide
      refine ⟨h, A, ?_, Q, by rw [show tk_t t p td = .inl p from if_neg fun w => en w.1]; exact S', h2⟩
      rw [E0, zb131_66, Q.1.1, zoi6, s6, if_neg (by decide), zm_nx, zb131_73, Q.1.1, zoi10, if_pos k2, zm_nx]
theorem qm_more_d {td : Nat} (htd : td < 128) (B : zo_B h0 t A0) (Q : zo_Q h0 h A0 g0 A r) (S : zo_St t A (.inl p)) (h2 : A 2 = nI td) (hP : zs_P r 0 P) (hn : P.1 ≤ 5) : ∃ d h' A' r', d < 7 ∧ tk_nv t (tk_t t p td) 6 = nI d ∧ zm_call 131 [.ref 137, .int (nI 4)] h = some (none, h') ∧ zo_Q h0 h' A0 g0 A' r' ∧ zo_St t A' (tk_nx t (tk_nx t (tk_nx t (tk_t t p td) 6) 9) 8) ∧ A' 2 = nI (td ||| 2 ^ d) ∧ zs_P r' 0 (tk_pd (tk_pw P d (tk_nv t (tk_nx t (tk_t t p td) 6) 9)) d (tk_nv t (tk_nx t (tk_nx t (tk_t t p td) 6) 9) 8)) := by
  have c31 : (31 : Nat) < 2 ^ 31 := by decide
  obtain ⟨h1, A1, E1, Q1, S1, t1⟩ := qm_told htd B Q S h2
  obtain ⟨d, hd, ed⟩ := tk_nv_b (M := 6) (m := 6) rfl (by decide) B S1
  obtain ⟨h2', A2, e1, Q2, S2, t2⟩ := qm_num (m := 6) (M := 6) rfl (by decide) B Q1 S1
  have or := tk_or d (by omega) td htd
  have w2 : A2 2 = nI td := t2.trans t1
  have Q3 := zo_Qs (c := 2) (x := nI (td ||| 2 ^ d)) Q2 (by decide)
  have S3 : zo_St t (upd A2 2 (nI (td ||| 2 ^ d))) (tk_nx t (tk_t t p td) 6) := by
    generalize tk_nx t (tk_t t p td) 6 = s at S2
    match s, S2 with
    | .inl p, S2 =>
      obtain ⟨hp, l8, l9, lw, lr⟩ := S2
      refine ⟨hp, by rw [pk_un (by decide)]; exact l8, by rw [pk_un (by decide)]; exact l9, fun w => ?_, fun w => ?_⟩
      · rw [pk_un (by decide), pk_un (by decide)]; exact lw w
      · rw [pk_un (by decide), pk_un (by decide), pk_un (by decide)]; exact lr w
    | .inr c, S2 =>
      obtain ⟨l6, l7, lc⟩ := S2
      exact ⟨by rw [pk_un (by decide)]; exact l6, by rw [pk_un (by decide)]; exact l7, lc⟩
  obtain ⟨h4, A4, e2, Q4, S4, t4⟩ := qm_num (m := 9) (M := 9) rfl (by decide) B Q3 S3
  have c4 : zm_g h4 (137 + 2) = .inl (0, 31, .inl r) := Q4.2.1
  have Q5 := zo_Qr (r' := upd r (16 + d) (tk_nv t (tk_nx t (tk_t t p td) 6) 9 - 1)) Q4
  obtain ⟨h6, A6, e3, Q6, S6, t6⟩ := qm_num (m := 8) (M := 8) rfl (by decide) B Q5 S4
  have c6 : zm_g h6 (137 + 2) = .inl (0, 31, .inl (upd r (16 + d) (tk_nv t (tk_nx t (tk_t t p td) 6) 9 - 1))) := Q6.2.1
  have Q7 := zo_Qr (r' := upd (upd r (16 + d) (tk_nv t (tk_nx t (tk_t t p td) 6) 9 - 1)) (23 + d) (tk_nv t (tk_nx t (tk_nx t (tk_t t p td) 6) 9) 8 - 4)) Q6
  have a16 : (16 : Int32) + nI d = nI (16 + d) := nI_add 16 d
  have a23 : (23 : Int32) + nI d = nI (23 + d) := nI_add 23 d
  refine ⟨d, _, _, _, by omega, ed, ?_, Q7, S6, by rw [t6, t4, pk_us], zs_Pwd0 (by omega) hP hn⟩
  rw [E1, zb131_116, Q1.1.1, zq_rc_o, e1, zq_bi_o, ed, Q2.1.1, zoi2, w2, or.1, zop2, Q3.1.1, zor1, zq_rc_o, e2, zq_bi_o, c4, a16, zq_as_o (show 16 + d < 31 by omega) c31, Q5.1.1, zor1, zq_rc_o, e3, zq_bi_o, c6, a23, zq_as_o (show 23 + d < 31 by omega) c31]
end ZT86
