def tk_n (t : tk_T) (p : Nat) (m : Int32) : Nat := if tk_S t p = 1 then (if tk_V t p ≤ m then 0 else 3) else if tk_S t p = 3 then 1 else 2
def tk_g (t : tk_T) (p : Nat) : Nat := if tk_S t p = 2 then 0 else if tk_S t p = 3 then 1 else 2
def tk_fig (t : tk_T) (q p : Nat) (kd : Int32) (P : zp_T) : Nat × Nat × zp_T :=
  if P.1 = 5 then (5, q, P) else if ¬ tk_n t p 99 = 0 then (tk_n t p 99, tk_Q t p, P) else if ¬ tk_n t (tk_E t p) 40 = 0 then (tk_n t (tk_E t p) 40, tk_Q t (tk_E t p), P) else if ¬ tk_g t (tk_E t (tk_E t p)) = 0 then (tk_g t (tk_E t (tk_E t p)), tk_Q t (tk_E t (tk_E t p)), P) else (0, tk_E t (tk_E t (tk_E t p)), zp_add P (kd, tk_V t p, tk_V t (tk_E t p)))
def tk_dn (t : tk_T) (p : Nat) : Nat := (tk_V t p).toNatClampNeg
def tk_pw (P : zp_T) (d : Nat) (x : Int32) : zp_T := (P.1, P.2.1, upd P.2.2.1 d x, P.2.2.2)
def tk_pd (P : zp_T) (d : Nat) (x : Int32) : zp_T := (P.1, P.2.1, P.2.2.1, upd P.2.2.2.1 d x, P.2.2.2.2)
def tk_day (t : tk_T) (p : Nat) (P : zp_T) (td : Nat) : Nat × Nat × zp_T × Nat :=
  if ¬ tk_n t p 6 = 0 then (tk_n t p 6, tk_Q t p, P, td) else if td / 2 ^ tk_dn t p % 2 = 1 then (4, tk_Q t p, P, td) else if ¬ tk_n t (tk_E t p) 9 = 0 then (tk_n t (tk_E t p) 9, tk_Q t (tk_E t p), P, td) else if ¬ tk_n t (tk_E t (tk_E t p)) 8 = 0 then (tk_n t (tk_E t (tk_E t p)) 8, tk_Q t (tk_E t (tk_E t p)), P, td) else if ¬ tk_g t (tk_E t (tk_E t (tk_E t p))) = 0 then (tk_g t (tk_E t (tk_E t (tk_E t p))), tk_Q t (tk_E t (tk_E t (tk_E t p))), P, td) else (0, tk_E t (tk_E t (tk_E t (tk_E t p))), tk_pd (tk_pw P (tk_dn t p) (tk_V t (tk_E t p))) (tk_dn t p) (tk_V t (tk_E t (tk_E t p))), td ||| 2 ^ tk_dn t p)
def tk_line (t : tk_T) (p : Nat) (P : zp_T) (td : Nat) : Nat × Nat × zp_T × Nat :=
  if tk_N t p < 4 then ((tk_fig t (tk_Q t p) (tk_E t p) (nI (tk_N t p)) P).1, (tk_fig t (tk_Q t p) (tk_E t p) (nI (tk_N t p)) P).2.1, (tk_fig t (tk_Q t p) (tk_E t p) (nI (tk_N t p)) P).2.2, td) else if tk_N t p = 4 then tk_day t (tk_E t p) P td else ((if tk_S t p = 3 then 1 else 2), tk_Q t p, P, td)
def tk_all (t : tk_T) : Nat → Nat → zp_T → Nat → Nat → Nat × Nat × Nat × zp_T
  | 0, _, P, _, L => (0, 0, L, P)
  | m + 1, p, P, td, L => if tk_S t p = 4 then (0, 0, L, P) else if ¬ (tk_line t p P td).1 = 0 then ((tk_line t p P td).1, (tk_line t p P td).2.1, L, P) else tk_all t m (tk_line t p P td).2.1 (tk_line t p P td).2.2.1 (tk_line t p P td).2.2.2 (L + 1)
def zc_rd (L fa fp td : Int32) : va_E := .inr (5, [.ref 92, .ref 94, .int L, .int fa, .int fp, .int td])
section ZT80
variable {h h0 : zm_H} {t : tk_T} {p : Nat} {P : zp_T}
theorem zrg0 {L fa fp td : Int32} {o : Nat → zm_O} : zq_gr (zc_rd L fa fp td) 5 0 o = o 92 := rfl
theorem zrg1 {L fa fp td : Int32} {o : Nat → zm_O} : zq_gr (zc_rd L fa fp td) 5 1 o = o 94 := rfl
theorem zrg2 {L fa fp td : Int32} {o : Int32 → zm_O} : zq_gi (zc_rd L fa fp td) 5 2 o = o L := rfl
theorem zrg3 {L fa fp td : Int32} {o : Int32 → zm_O} : zq_gi (zc_rd L fa fp td) 5 3 o = o fa := rfl
theorem zrg4 {L fa fp td : Int32} {o : Int32 → zm_O} : zq_gi (zc_rd L fa fp td) 5 4 o = o fp := rfl
theorem zrg5 {L fa fp td : Int32} {o : Int32 → zm_O} : zq_gi (zc_rd L fa fp td) 5 5 o = o td := rfl
theorem zrp2 {L fa fp td x : Int32} {o : va_E → zm_O} : zq_pi (zc_rd L fa fp td) 5 2 x o = o (zc_rd x fa fp td) := rfl
theorem zrp3 {L fa fp td x : Int32} {o : va_E → zm_O} : zq_pi (zc_rd L fa fp td) 5 3 x o = o (zc_rd L x fp td) := rfl
theorem zrp4 {L fa fp td x : Int32} {o : va_E → zm_O} : zq_pi (zc_rd L fa fp td) 5 4 x o = o (zc_rd L fa x td) := rfl
theorem zrp5 {L fa fp td x : Int32} {o : va_E → zm_O} : zq_pi (zc_rd L fa fp td) 5 5 x o = o (zc_rd L fa fp x) := rfl
theorem zrrc {L fa fp td : Int32} {o : zm_O} : zq_rc (zc_rd L fa fp td) 5 o = o := rfl
/-- the class at its reading: tape, reader, draft -/
def zc_R (h0 h : zm_H) (t : tk_T) (a k q v L fa fp td : Int32) (P : zp_T) : Prop := zm_g h 92 = zc_tp t.1 a k q v ∧ zm_g h 91 = zc_rd L fa fp td ∧ zp_V h 94 P ∧ zm_Fr h0 h 91 104 ∧ ∃ g, zm_g h 93 = .inl (1, 160, .inl g) ∧ ∀ j, j < t.1 → g j = t.2 j
variable {a k q v L fa fp td : Int32}
theorem zc_R91 (R : zc_R h0 h t a k q v L fa fp td P) {a' k' q' v' : Int32} : zc_R h0 (zm_s h 92 (zc_tp t.1 a' k' q' v')) t a' k' q' v' L fa fp td P := by
  obtain ⟨r1, r2, r3, r4, g, r5, r6⟩ := R
  exact ⟨zg_ss, by rw [zg_sn (by omega)]; exact r2, zV_keep r3 fun b b1 b2 => zg_sn (by omega), zFr_tr r4 (zFr_s (by omega) (by omega)), g, by rw [zg_sn (by omega)]; exact r5, r6⟩
theorem zc_R93 (R : zc_R h0 h t a k q v L fa fp td P) {L' fa' fp' td' : Int32} : zc_R h0 (zm_s h 91 (zc_rd L' fa' fp' td')) t a k q v L' fa' fp' td' P := by
  obtain ⟨r1, r2, r3, r4, g, r5, r6⟩ := R
  exact ⟨by rw [zg_sn (by omega)]; exact r1, zg_ss, zV_keep r3 fun b b1 b2 => zg_sn (by omega), zFr_tr r4 (zFr_s (by omega) (by omega)), g, by rw [zg_sn (by omega)]; exact r5, r6⟩
theorem zc_R94 {h' : zm_H} {P' : zp_T} (R : zc_R h0 h t a k q v L fa fp td P) (hV : zp_V h' 94 P') (hF : zm_Fr h h' 94 104) : zc_R h0 h' t a k q v L fa fp td P' := by
  obtain ⟨r1, r2, r3, r4, g, r5, r6⟩ := R
  exact ⟨(hF.2.2 92 (by omega)).trans r1, (hF.2.2 91 (by omega)).trans r2, hV, zFr_tr r4 (zFr_mn hF (by omega) (by omega)), g, (hF.2.2 93 (by omega)).trans r5, r6⟩
theorem qr_adv (hp : p ≤ t.1) (hn : t.1 ≤ 160) (R : zc_R h0 h t (nI p) k q v L fa fp td P) : ∃ h' v', zm_call 42 [.ref 92] h = some (none, h') ∧ zc_R h0 h' t (nI (tk_E t p)) (nI (tk_S t p)) (nI (tk_Q t p)) v' L fa fp td P ∧ (tk_S t p = 1 → v' = tk_V t p) := by
  obtain ⟨r1, r2, r3, r4, g, r5, r6⟩ := id R
  obtain ⟨v', e1, e2⟩ := qc_adv (k0 := k) (p0 := q) (v0 := v) hp hn r5 r6
  rw [zs_self r1] at e1
  exact ⟨_, v', e1, zc_R91 R, e2⟩
theorem qr_refuse {c : Int32} (R : zc_R h0 h t a k q v L fa fp td P) : ∃ h', zm_call 55 [.ref 91, .int c] h = some (some (.int 0), h') ∧ zc_R h0 h' t a k q v L c q td P := by
  obtain ⟨r1, r2, r3, r4, g, r5, r6⟩ := id R
  refine ⟨_, ?_, zc_R93 R⟩
  rw [zc55, zm_nx, zb55_0]
  simp only [r2, zrp3, zg_ss, zrg0, zg_sn (show 92 ≠ 91 by decide), r1, ztg4, zrp4, zs_ss, zq_rz_0]
theorem qr_rtok {s : Nat} (hs : s < 100) (R : zc_R h0 h t a (nI s) q v L fa fp td P) : ∃ h', zm_call 54 [.ref 91] h = some (some (.int 0), h') ∧ zc_R h0 h' t a (nI s) q v L (nI (if s = 3 then 1 else 2)) q td P := by
  obtain ⟨r1, r2, -⟩ := id R
  by_cases z : s = 3
  · obtain ⟨h', e1, e2⟩ := qr_refuse (c := 1) R
    refine ⟨h', ?_, by rw [if_pos z]; exact e2⟩
    rw [zc54, zm_nx, zb54_0]
    simp only [r2, zrg0, r1, ztg3, zm_nx]
    rw [if_neg (not_not_intro (show nI s = 3 by rw [z]; rfl)), zb54_12, zm_nx, zb54_17, r2, zrrc, e1, zq_bi_o, zq_rz_0]
  · obtain ⟨h', e1, e2⟩ := qr_refuse (c := 2) R
    refine ⟨h', ?_, by rw [if_neg z]; exact e2⟩
    rw [zc54, zm_nx, zb54_0]
    simp only [r2, zrg0, r1, ztg3, zm_nx]
    rw [if_pos (show ¬ nI s = (3 : Int32) from fun w => z ((nI_eq (b := 3) (by omega) (by decide)).mp w)), zb54_16, zm_nx, zb54_17, r2, zrrc, e1, zq_bi_o, zq_rz_0]
theorem tk_S_lt : tk_S t p < 5 := by
  unfold tk_S
  by_cases z : tk_S0 t p = 1 ∧ 2 < tk_E t p - tk_Q t p
  · rw [if_pos z]; decide
  · rw [if_neg z]
    unfold tk_S0
    split
    · have := tk_so_lt (t.2 (tk_Q t p))
      omega
    · decide
theorem qr_num {m : Int32} (hp : p ≤ t.1) (hn : t.1 ≤ 160) (R : zc_R h0 h t (nI p) k q v L fa fp td P) : ∃ h' v', zm_call 52 [.ref 91, .int m] h = some (some (.int (zx_b (decide (tk_n t p m = 0)))), h') ∧ (tk_n t p m = 0 → zc_R h0 h' t (nI (tk_E t p)) (nI (tk_S t p)) (nI (tk_Q t p)) (tk_V t p) L fa fp td P) ∧ (¬ tk_n t p m = 0 → zc_R h0 h' t (nI (tk_E t p)) (nI (tk_S t p)) (nI (tk_Q t p)) v' L (nI (tk_n t p m)) (nI (tk_Q t p)) td P) := by
  have h10 : ¬ (1 : Int32) = 0 := by decide
  obtain ⟨r1, r2, -⟩ := id R
  obtain ⟨h1, v1, e1, R1, e2⟩ := qr_adv hp hn R
  obtain ⟨x1, x2, -⟩ := id R1
  have E : zm_call 52 [.ref 91, .int m] h = (if nI (tk_S t p) = (1 : Int32) then zm_den 3 52 23 [.ref 91, .int m] [] h1 else zm_den 3 52 18 [.ref 91, .int m] [] h1) := by
    rw [zc52, zm_nx, zb52_0]
    simp only [r2, zrg0, r1, ztrc, e1, zq_bv_o, x2, x1, ztg3, zm_nx]
  have sl := tk_S_lt (t := t) (p := p)
  rw [E]
  unfold tk_n
  by_cases z : tk_S t p = 1
  · have ev := e2 z
    subst ev
    rw [if_pos z, if_pos (show nI (tk_S t p) = 1 by rw [z]; rfl), zb52_23]
    simp only [x2, zrg0, x1, ztg5, zm_nx]
    by_cases y : tk_V t p ≤ m
    · refine ⟨h1, 0, ?_, fun _ => R1, fun w => absurd (if_pos y) w⟩
      rw [if_pos y, if_pos y, zb52_42, zm_nx, zb52_47, zq_rz_1]
      rfl
    · obtain ⟨h2, f1, f2⟩ := qr_refuse (c := 3) R1
      refine ⟨h2, tk_V t p, ?_, fun w => absurd w (by rw [if_neg y]; decide), fun _ => by rw [if_neg y]; exact f2⟩
      rw [if_neg y, if_neg y, zb52_34, x2, zrrc, f1, zq_bi_o, if_pos rfl, zm_nx, zb52_46, zm_nx, zb52_47, zq_rz_0]
      rfl
  · obtain ⟨h2, f1, f2⟩ := qr_rtok (by omega) R1
    rw [if_neg z, if_neg (show ¬ nI (tk_S t p) = (1 : Int32) from fun w => z ((nI_eq (b := 1) (by omega) (by decide)).mp w)), zb52_18]
    refine ⟨h2, v1, ?_, fun w => absurd w (by split <;> decide), fun _ => f2⟩
    rw [x2, zrrc, f1, zq_bi_o, zq_rz_0]
    split <;> rfl
theorem qr_sign (hp : p ≤ t.1) (hn : t.1 ≤ 160) (R : zc_R h0 h t (nI p) k q v L fa fp td P) : ∃ h' v', zm_call 53 [.ref 91] h = some (some (.int (zx_b (decide (tk_g t p = 0)))), h') ∧ (tk_g t p = 0 → zc_R h0 h' t (nI (tk_E t p)) (nI (tk_S t p)) (nI (tk_Q t p)) v' L fa fp td P) ∧ (¬ tk_g t p = 0 → zc_R h0 h' t (nI (tk_E t p)) (nI (tk_S t p)) (nI (tk_Q t p)) v' L (nI (tk_g t p)) (nI (tk_Q t p)) td P) := by
  have h10 : ¬ (1 : Int32) = 0 := by decide
  obtain ⟨r1, r2, -⟩ := id R
  obtain ⟨h1, v1, e1, R1, e2⟩ := qr_adv hp hn R
  obtain ⟨x1, x2, -⟩ := id R1
  have E : zm_call 53 [.ref 91] h = (if nI (tk_S t p) = (2 : Int32) then zm_den 3 53 25 [.ref 91] [] h1 else zm_den 3 53 18 [.ref 91] [] h1) := by
    rw [zc53, zm_nx, zb53_0]
    simp only [r2, zrg0, r1, ztrc, e1, zq_bv_o, x2, x1, ztg3, zm_nx]
  have sl := tk_S_lt (t := t) (p := p)
  rw [E]
  unfold tk_g
  by_cases z : tk_S t p = 2
  · rw [if_pos z, if_pos (show nI (tk_S t p) = 2 by rw [z]; rfl), zb53_25, zm_nx, zb53_30, zq_rz_1]
    exact ⟨h1, v1, rfl, fun _ => R1, fun w => absurd rfl w⟩
  · obtain ⟨h2, f1, f2⟩ := qr_rtok (by omega) R1
    rw [if_neg z, if_neg (show ¬ nI (tk_S t p) = (2 : Int32) from fun w => z ((nI_eq (b := 2) (by omega) (by decide)).mp w)), zb53_18]
    refine ⟨h2, v1, ?_, fun w => absurd w (by split <;> decide), fun _ => f2⟩
    rw [x2, zrrc, f1, zq_bi_o, if_pos rfl, zm_nx, zb53_29, zm_nx, zb53_30, zq_rz_0]
    split <;> rfl
/-- a line refused -/
def zc_F (h0 h : zm_H) (t : tk_T) (c q : Nat) (L : Int32) : Prop := ∃ a k p v td P, zc_R h0 h t a k p v L (nI c) (nI q) td P
theorem qr_fig2 {kd : Int32} {q0 : Nat} (hp : p ≤ t.1) (hn : t.1 ≤ 160) (h5 : P.1 ≤ 5) (R : zc_R h0 h t (nI p) k (nI q0) v L fa fp td P) : ∃ h', zm_call 50 [.ref 91, .int kd] h = some (some (.int (zx_b (decide ((tk_fig t q0 p kd P).1 = 0)))), h') ∧ ((tk_fig t q0 p kd P).1 = 0 → ∃ k' q' v', zc_R h0 h' t (nI (tk_fig t q0 p kd P).2.1) k' q' v' L fa fp td (tk_fig t q0 p kd P).2.2) ∧ (¬ (tk_fig t q0 p kd P).1 = 0 → zc_F h0 h' t (tk_fig t q0 p kd P).1 (tk_fig t q0 p kd P).2.1 L) := by
  have h10 : ¬ (1 : Int32) = 0 := by decide
  obtain ⟨r1, r2, r3, -⟩ := id R
  obtain ⟨ad, Q, -, -, v1, v2, v3, v4⟩ := zV_row r3
  have hE := tk_E_le hp
  have hE2 := tk_E_le (t := t) (p := tk_E t p) hE.2.1
  have dt : ∀ n : Nat, n = 0 → zx_b (decide (n = 0)) = 1 := fun n hn => by rw [decide_eq_true hn]; rfl
  have df : ∀ n : Nat, ¬ n = 0 → zx_b (decide (n = 0)) = 0 := fun n hn => by rw [decide_eq_false hn]; rfl
  by_cases z : P.1 = 5
  · have er : tk_fig t q0 p kd P = (5, q0, P) := by unfold tk_fig; rw [if_pos z]
    rw [er]
    obtain ⟨h1, e1, R1⟩ := qr_refuse (c := 5) R
    refine ⟨h1, ?_, fun w => absurd (show (5 : Nat) = 0 from w) (by decide), fun _ => ⟨_, _, _, _, _, _, R1⟩⟩
    rw [zc50, zm_nx, zb50_0]
    simp only [r2, zrg1, v1, zgr_1_0, v2, zgi_2_1]
    rw [if_neg (show ¬ nI P.1 < (5 : Int32) by rw [z]; decide), zm_nx, zb50_14, r2, zrrc, e1, zq_bi_o, zq_rz_0]
    rfl
  · obtain ⟨h1, w1, e1, R1, F1⟩ := qr_num (m := 99) hp hn R
    have E1 : zm_call 50 [.ref 91, .int kd] h = (if ¬ zx_b (decide (tk_n t p 99 = 0)) = 0 then zm_den 4 50 31 [.ref 91, .int kd, .null] [] h1 else zm_den 4 50 29 [.ref 91, .int kd, .null] [] h1) := by
      rw [zc50, zm_nx, zb50_0]
      simp only [r2, zrg1, v1, zgr_1_0, v2, zgi_2_1]
      rw [if_pos (show nI P.1 < (5 : Int32) from nI_lt (b := 5) (by omega) (by decide)), zm_nx, zb50_20, r2, zrrc, e1, zq_bi_o, zm_nx, zm_nx]
    by_cases n1 : tk_n t p 99 = 0
    · have R1 := R1 n1
      obtain ⟨x1, x2, x3, -⟩ := id R1
      obtain ⟨h2, w2, e2, R2, F2⟩ := qr_num (m := 40) hE.2.1 hn R1
      rw [dt _ n1, if_pos h10, zb50_31] at E1
      simp only [x2, zrg0, x1, ztg5, zrrc, e2, zq_bi_o, zm_nx] at E1
      by_cases n2 : tk_n t (tk_E t p) 40 = 0
      · have R2 := R2 n2
        obtain ⟨y1, y2, y3, -⟩ := id R2
        obtain ⟨ad2, Q2, -, -, u1, u2, u3, u4⟩ := zV_row y3
        obtain ⟨h3, e3, V3, F3⟩ := zV_add (f := (kd, tk_V t p, tk_V t (tk_E t p))) y3 (by omega)
        have e3' : zm_call 20 [.ref (94 + 1), .int kd, .int (tk_V t p), .int (tk_V t (tk_E t p))] h2 = some (none, h3) := e3
        have R3 := zc_R94 R2 V3 (zFr_mn F3 (by omega) (by omega))
        obtain ⟨-, z2, -⟩ := id R3
        obtain ⟨h4, w4, e4, R4, F4⟩ := qr_sign hE2.2.1 hn R3
        rw [dt _ n2, if_pos h10, zb50_50] at E1
        simp only [y2, zrg1, u1, zgr_1_0, zrg0, y1, ztg5, u2, zq_rc_o, e3', zq_bv_o, z2, zrrc, e4, zq_bi_o] at E1
        by_cases n3 : tk_g t (tk_E t (tk_E t p)) = 0
        · have er : tk_fig t q0 p kd P = (0, tk_E t (tk_E t (tk_E t p)), zp_add P (kd, tk_V t p, tk_V t (tk_E t p))) := by
            unfold tk_fig
            rw [if_neg z, if_neg (not_not_intro n1), if_neg (not_not_intro n2), if_neg (not_not_intro n3)]
          rw [er]
          rw [dt _ n3] at E1
          exact ⟨h4, E1.trans zq_rz_1, fun _ => ⟨_, _, _, R4 n3⟩, fun w => absurd rfl w⟩
        · have er : tk_fig t q0 p kd P = (tk_g t (tk_E t (tk_E t p)), tk_Q t (tk_E t (tk_E t p)), P) := by
            unfold tk_fig
            rw [if_neg z, if_neg (not_not_intro n1), if_neg (not_not_intro n2), if_pos n3]
          rw [er]
          rw [df _ n3] at E1
          refine ⟨h4, ?_, fun w => absurd w n3, fun _ => ⟨_, _, _, _, _, _, F4 n3⟩⟩
          rw [df _ n3]
          exact E1.trans zq_rz_0
      · have er : tk_fig t q0 p kd P = (tk_n t (tk_E t p) 40, tk_Q t (tk_E t p), P) := by
          unfold tk_fig
          rw [if_neg z, if_neg (not_not_intro n1), if_pos n2]
        rw [er]
        rw [df _ n2, if_neg (not_not_intro rfl), zb50_48] at E1
        refine ⟨h2, ?_, fun w => absurd w n2, fun _ => ⟨_, _, _, _, _, _, F2 n2⟩⟩
        rw [df _ n2]
        exact E1.trans zq_rz_0
    · have er : tk_fig t q0 p kd P = (tk_n t p 99, tk_Q t p, P) := by
        unfold tk_fig
        rw [if_neg z, if_pos n1]
      rw [er]
      rw [df _ n1, if_neg (not_not_intro rfl), zb50_29] at E1
      refine ⟨h1, ?_, fun w => absurd w n1, fun _ => ⟨_, _, _, _, _, _, F1 n1⟩⟩
      rw [df _ n1]
      exact E1.trans zq_rz_0
end ZT80
