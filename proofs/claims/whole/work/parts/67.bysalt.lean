def zx_o (v s : Nat) : Nat := if s % 2 = 1 then v else 10 - v
def zx_ro (v : Nat) : Nat → Nat → Nat → zp_T → Nat × zp_T
  | 0, _, o, P => (o, P)
  | k + 1, s, o, P => zx_ro v k (s / 2) (o * zx_o v s) (zp_st (decide (s % 2 = 1)) P)
def zx_rt (v : Nat) (x : Int32) : Nat → Nat → zp_T → Nat
  | 0, _, P => zp_val x P
  | k + 1, s, P => zx_o v s * zx_rt v x k (s / 2) (zp_st (decide (s % 2 = 1)) P)
theorem zx_ro_rt {v : Nat} {x : Int32} : ∀ (k s o : Nat) (P : zp_T), (zx_ro v k s o P).1 * zp_val x (zx_ro v k s o P).2 = o * zx_rt v x k s P
  | 0, _, _, _ => rfl
  | k + 1, s, o, P => by
    unfold zx_ro zx_rt
    rw [zx_ro_rt k (s / 2) (o * zx_o v s) _, Nat.mul_assoc]
def zx_S (f : Nat → Nat) : Nat → Nat
  | 0 => 0
  | n + 1 => zx_S f n + f n
theorem zx_S2 (f : Nat → Nat) : ∀ n, zx_S f (2 * n) = zx_S (fun q => f (2 * q) + f (2 * q + 1)) n
  | 0 => rfl
  | n + 1 => by
    show zx_S f (2 * n) + f (2 * n) + f (2 * n + 1) = zx_S (fun q => f (2 * q) + f (2 * q + 1)) n + (f (2 * n) + f (2 * n + 1))
    rw [zx_S2 f n]
    omega
theorem zx_Sl (f g : Nat → Nat) (a b : Nat) : ∀ n, zx_S (fun q => a * f q + b * g q) n = a * zx_S f n + b * zx_S g n
  | 0 => rfl
  | n + 1 => by
    unfold zx_S
    rw [zx_Sl f g a b n, Nat.mul_add, Nat.mul_add]
    omega
theorem zx_SW {v : Nat} {x : Int32} : ∀ (k : Nat) (P : zp_T), zx_S (fun s => zx_rt v x k s P) (2 ^ k) = zp_Wt v x k P
  | 0, P => by
    show 0 + zp_val x P = zp_val x P
    omega
  | k + 1, P => by
    rw [Nat.pow_succ, Nat.mul_comm, zx_S2]
    have e : (fun q => zx_rt v x (k + 1) (2 * q) P + zx_rt v x (k + 1) (2 * q + 1) P) = fun q => (10 - v) * zx_rt v x k q (zp_st false P) + v * zx_rt v x k q (zp_st true P) := by
      funext q
      show zx_o v (2 * q) * zx_rt v x k (2 * q / 2) (zp_st (decide (2 * q % 2 = 1)) P) + zx_o v (2 * q + 1) * zx_rt v x k ((2 * q + 1) / 2) (zp_st (decide ((2 * q + 1) % 2 = 1)) P) = _
      unfold zx_o
      have a1 : 2 * q % 2 = 0 := by omega
      have a2 : 2 * q / 2 = q := by omega
      have a3 : (2 * q + 1) % 2 = 1 := by omega
      have a4 : (2 * q + 1) / 2 = q := by omega
      rw [a1, a2, a3, a4, if_neg (by decide), if_pos rfl]
      rfl
    rw [e, zx_Sl, zx_SW k, zx_SW k]
    show _ = v * _ + (10 - v) * _
    omega
theorem zx_sh : ∀ t, t < 8 → ((nI t &&& 31).toBitVec.smod 32).toNat = t := by decide +kernel
theorem zx_p2 : ∀ n, n < 9 → (1 : Int32) <<< (nI n &&& 31) = nI (2 ^ n) := by decide +kernel
theorem zx_bit {s t : Nat} (hs : s < 2 ^ 31) (ht : t < 8) : (nI s >>> (nI t &&& 31)) &&& (1 : Int32) = nI (s / 2 ^ t % 2) := by
  rw [pk_shrN hs _ t (zx_sh t ht)]
  have : s / 2 ^ t ≤ s := Nat.div_le_self _ _
  exact pk_andN (by omega) 1 (by decide)
section ZT67
variable {h h0 : zm_H} {Y : zy_T} {A0 g0 A g : Nat → Int32} {P Q : zp_T} {v n : Nat} {x3 x4 : Int32}
theorem qm_hv {s : Bool} (J : zo_J h0 h A0 g0 A g) (hP : zs_P g 124 Q) (ho : zp_ok Q) {l5 l7 l10 : Int64} {v6 v8 v11 : Value} {x1 x2 x9 x12 x13 : Int32} (hs : s = true ↔ ¬ x13 = 0) : ∃ h1 g1, (if x13 = (0 : Int32) then zm_nx 4 178 132 [.ref 137, .int x1, .int x2, .int x3, .int x4, .long l5, v6, .long l7, v8, .int x9, .long l10, v11, .int x12, .int x13, .int (zp_reign Q)] [] h else zm_nx 4 178 110 [.ref 137, .int x1, .int x2, .int x3, .int x4, .long l5, v6, .long l7, v8, .int x9, .long l10, v11, .int x12, .int x13, .int (zp_reign Q)] [] h) = zm_den 4 178 132 [.ref 137, .int x1, .int x2, .int x3, .int x4, .long l5, v6, .long l7, v8, .int x9, .long l10, v11, .int x12, .int x13, .int (zp_reign Q)] [] h1 ∧ zo_J h0 h1 A0 g0 A g1 ∧ zs_P g1 124 (zp_hv s Q) ∧ ∀ q, (q < 124 ∨ 155 ≤ q) → g1 q = g q := by
  by_cases z : x13 = 0
  · have : s = false := by
      cases s with
      | false => rfl
      | true => exact absurd z (hs.mp rfl)
    subst this
    exact ⟨h, g, by rw [if_pos z]; rfl, J, hP, fun _ _ => rfl⟩
  · have : s = true := hs.mpr z
    subst this
    rw [if_neg z, zm_nx, zb178_110]
    rcases zr_reign_spec Q.1 Q.2.1 with e | ⟨j, hj, e⟩
    · have e' : zp_reign Q = -4 := e
      refine ⟨h, g, by rw [if_pos e']; rfl, J, ?_, fun _ _ => rfl⟩
      rw [zp_hv_n e']
      exact hP
    · have e' : zp_reign Q = nI j := e
      have j5 : j < 5 := Nat.lt_of_lt_of_le hj ho.1
      have l1 : ∀ o : Int32 → zm_O, zq_al (.inl (0, 186, .inl g)) 0 ((129 : Int32) + nI j) o = o (Q.2.1 j).2.1 := fun o => zy_al (j := 124 + 5 + j) (nI_add 129 j) (by omega) (by decide) (hP.2.1 j hj).2.1
      have s1 : ∀ (x : Int32) (o : va_E → zm_O), zq_as (.inl (0, 186, .inl g)) 0 ((129 : Int32) + nI j) x o = o (.inl (0, 186, .inl (upd g (124 + 5 + j) x))) := fun x o => by
        rw [show (129 : Int32) + nI j = nI (124 + 5 + j) from nI_add 129 j]
        exact zq_as_o (by omega) (by decide)
      have J2 := zo_Js (g2 := upd g (124 + 5 + j) ((Q.2.1 j).2.1 / 2)) J fun q _ _ => pk_un (by omega)
      refine ⟨_, _, ?_, J2, ?_, fun q hq => pk_un (by omega)⟩
      · rw [if_neg (by rw [e']; exact nI_ne4 (by omega)), zm_nx, zb178_117]
        simp only [J.1.1, zor0, J.1.2, e', l1, s1, zm_nx]
      · rw [zp_hv_r hj ho.1 e']
        refine zs_Psf hP ho.1 (fun q _ _ _ _ _ => pk_un (by omega)) hj ?_ ?_ ?_
        · rw [pk_un (by omega)]; exact (hP.2.1 j hj).1
        · rw [pk_us]
        · rw [pk_un (by omega)]; exact (hP.2.1 j hj).2.2
theorem qm_salt_in {l5 l7 : Int64} {v6 v8 : Value} {s0 : Nat} (hv : v ≤ 10) (hn : n ≤ 8) (hs0 : s0 < 2 ^ 31) : ∀ (k t : Nat) (h : zm_H) (g : Nat → Int32) (Q : zp_T) (o : Nat) (v11 v13 v14 : Value), t + k = n → Q.2.2.2.2 + k < 100000 → zp_ok Q → zo_J h0 h A0 g0 A g → zs_P g 124 Q → ∃ h' g' u11 u13 u14, zm_den 4 178 53 [.ref 137, .int (nI v), .int (nI n), .int x3, .int x4, .long l5, v6, .long l7, v8, .int (nI s0), .long (lN o), v11, .int (nI t), v13, v14] [] h = zm_den 4 178 144 [.ref 137, .int (nI v), .int (nI n), .int x3, .int x4, .long l5, v6, .long l7, v8, .int (nI s0), .long (lN (zx_ro v k (s0 / 2 ^ t) o Q).1), u11, .int (nI n), u13, u14] [] h' ∧ zo_J h0 h' A0 g0 A g' ∧ zs_P g' 124 (zx_ro v k (s0 / 2 ^ t) o Q).2 ∧ zp_ok (zx_ro v k (s0 / 2 ^ t) o Q).2 ∧ ∀ q, (q < 124 ∨ 155 ≤ q) → g' q = g q := by
  intro k
  induction k with
  | zero =>
    intro t h g Q o v11 v13 v14 ht hd ho J hP
    have : t = n := by omega
    subst this
    refine ⟨h, g, v11, v13, v14, ?_, J, hP, ho, fun _ _ => rfl⟩
    rw [zb178_53, if_pos (nI_le (Nat.le_refl _) (by omega)), zm_nx]
    rfl
  | succ k ih =>
    intro t h g Q o v11 v13 v14 ht hd ho J hP
    have h10 : ¬ (1 : Int32) = 0 := by decide
    have bit := zx_bit (s := s0) (t := t) hs0 (by omega)
    have rg : zm_call 143 [.ref 137, .int (124 : Int32)] h = some (some (.int (zp_reign Q)), h) := qm_reign (p := 124) (zo_Ms J.1) hP (by omega) ho.1
    have nx : s0 / 2 ^ (t + 1) = s0 / 2 ^ t / 2 := by rw [Nat.pow_succ, Nat.div_div_eq_div_mul]
    have lv : (nI v).toInt64 = lN v := nI_l (by omega)
    have lw : ((10 : Int32) - nI v).toInt64 = lN (10 - v) := by
      rw [show (10 : Int32) - nI v = nI (10 - v) from pk_sub (a := 10) (by omega)]
      exact nI_l (by omega)
    have main : ∃ (x13 : Int32) (u11 : Value), (decide (s0 / 2 ^ t % 2 = 1) = true ↔ ¬ x13 = 0) ∧ zm_den 4 178 53 [.ref 137, .int (nI v), .int (nI n), .int x3, .int x4, .long l5, v6, .long l7, v8, .int (nI s0), .long (lN o), v11, .int (nI t), v13, v14] [] h = (if x13 = (0 : Int32) then zm_nx 4 178 132 [.ref 137, .int (nI v), .int (nI n), .int x3, .int x4, .long l5, v6, .long l7, v8, .int (nI s0), .long (lN (o * zx_o v (s0 / 2 ^ t))), u11, .int (nI t), .int x13, .int (zp_reign Q)] [] h else zm_nx 4 178 110 [.ref 137, .int (nI v), .int (nI n), .int x3, .int x4, .long l5, v6, .long l7, v8, .int (nI s0), .long (lN (o * zx_o v (s0 / 2 ^ t))), u11, .int (nI t), .int x13, .int (zp_reign Q)] [] h) := by
      rw [zb178_53, if_neg (nI_ge (a := t) (b := n) (by omega) (by omega)), zm_nx, zb178_59, bit]
      by_cases b1 : s0 / 2 ^ t % 2 = 1
      · refine ⟨1, .null, by rw [b1]; decide, ?_⟩
        rw [b1, if_neg (by decide), zm_nx, zb178_70, zm_nx, zb178_75]
        simp only [J.1.1, zq_rc_o, rg, zq_bi_o, h10, if_false, zm_nx]
        rw [zb178_92, zm_nx, zb178_102, lv, lN_mul]
        unfold zx_o
        rw [if_pos b1]
        rfl
      · have b0 : s0 / 2 ^ t % 2 = 0 := by omega
        refine ⟨0, .null, by rw [b0]; decide, ?_⟩
        rw [b0, if_pos (by decide), zm_nx, zb178_74, zm_nx, zb178_75]
        simp only [J.1.1, zq_rc_o, rg, zq_bi_o, if_true, zm_nx]
        rw [zb178_97, zm_nx, zb178_102, lw, lN_mul]
        unfold zx_o
        rw [if_neg b1]
        rfl
    obtain ⟨x13, u11, hs, E⟩ := main
    obtain ⟨h1, g1, E1, J1, P1, k1⟩ := qm_hv (s := decide (s0 / 2 ^ t % 2 = 1)) J hP ho (l5 := l5) (l7 := l7) (l10 := lN (o * zx_o v (s0 / 2 ^ t))) (v6 := v6) (v8 := v8) (v11 := u11) (x1 := nI v) (x2 := nI n) (x9 := nI s0) (x12 := nI t) (x3 := x3) (x4 := x4) hs
    have ho1 : zp_ok (zp_hv (decide (s0 / 2 ^ t % 2 = 1)) Q) := by
      rcases zr_reign_spec Q.1 Q.2.1 with e | ⟨j, hj, e⟩
      · rw [zp_hv_n e]
        exact ho
      · cases hb : decide (s0 / 2 ^ t % 2 = 1) with
        | false => exact ho
        | true =>
          rw [zp_hv_r hj ho.1 e]
          exact zp_ok_sf ho (zf_half (ho.2.1 j hj))
    have hc := zp_hv_c (P := Q) (s := decide (s0 / 2 ^ t % 2 = 1))
    obtain ⟨h2, g2, e1, e2, e3, e4, e5⟩ := qm_go J1.1 P1 (by omega) ho1 (by rw [hc.2]; omega)
    have e1' : zm_call 141 [.ref 137, .int (124 : Int32)] h1 = some (none, h2) := e1
    obtain ⟨h', g', w11, w13, w14, d1, d2, d3, d4, d5⟩ := ih (t + 1) h2 g2 (zp_st (decide (s0 / 2 ^ t % 2 = 1)) Q) (o * zx_o v (s0 / 2 ^ t)) u11 (.int x13) (.int (zp_reign Q)) (by omega) (by rw [zp_st_c.2.2.2]; omega) (zp_ok_st ho) (zo_Jm J1 e2 (fun q _ _ => e5 q (by omega)) e4) e3
    rw [nx] at d1 d3 d4
    refine ⟨h', g', w11, w13, w14, ?_, d2, d3, d4, fun q hq => ((d5 q hq).trans (e5 q (by omega))).trans (k1 q hq)⟩
    rw [E, E1, zb178_132]
    simp only [J1.1.1, zq_rc_o, e1', zq_bv_o, nI_1, zm_nx]
    exact d1
theorem qm_salt_o {l7 : Int64} {v8 : Value} (hv : v ≤ 10) (hn : n ≤ 8) (ho : zp_ok P) (hd : P.2.2.2.2 < 1000) (x3b : x3 = 0 ∨ x3 = 1) : ∀ (m s : Nat) (h : zm_H) (g : Nat → Int32) (v6 v10 v11 v12 v13 v14 : Value), s + m = 2 ^ n → zo_J h0 h A0 g0 A g → zs_P g 0 P → ∃ h' g' u6 u9 u10 u11 u12 u13 u14, zm_den 4 178 32 [.ref 137, .int (nI v), .int (nI n), .int x3, .int x4, .long (lN (zx_S (fun s => zx_rt v x3 n s P) s)), v6, .long l7, v8, .int (nI s), v10, v11, v12, v13, v14] [] h = zm_den 4 178 188 [.ref 137, .int (nI v), .int (nI n), .int x3, .int x4, .long (lN (zx_S (fun s => zx_rt v x3 n s P) (2 ^ n))), u6, .long l7, v8, .int u9, u10, u11, u12, u13, u14] [] h' ∧ zo_J h0 h' A0 g0 A g' ∧ zs_P g' 0 P := by
  have h10 : ¬ (1 : Int32) = 0 := by decide
  have p256 : 2 ^ n ≤ 256 := by
    have : 2 ^ n ≤ 2 ^ 8 := Nat.pow_le_pow_right (by decide) hn
    omega
  intro m
  induction m with
  | zero =>
    intro s h g v6 v10 v11 v12 v13 v14 hs J hP
    have : s = 2 ^ n := by omega
    subst this
    refine ⟨h, g, v6, nI (2 ^ n), v10, v11, v12, v13, v14, ?_, J, hP⟩
    rw [zb178_32, zx_p2 n (by omega), if_pos (nI_le (Nat.le_refl _) (by omega)), zm_nx]
  | succ m ih =>
    intro s h g v6 v10 v11 v12 v13 v14 hs J hP
    obtain ⟨h1, g1, c1, c2, c3, c4⟩ := zo_Jc J hP ho.1 (t := 124) (by omega)
    have c1' : zm_call 160 [.ref 137, .int (0 : Int32), .int (124 : Int32)] h = some (none, h1) := c1
    obtain ⟨h2, g2, u11, u13, u14, d1, d2, d3, d4, d5⟩ := qm_salt_in (l5 := lN (zx_S (fun s => zx_rt v x3 n s P) s)) (l7 := l7) (v6 := v6) (v8 := v8) (x3 := x3) (x4 := x4) (s0 := s) hv hn (by omega) n 0 h1 g1 P 1 .null v13 v14 (by omega) (by omega) ho c2 c3
    have e1 : s / 2 ^ 0 = s := by rw [Nat.pow_zero, Nat.div_one]
    rw [e1] at d1 d3 d4
    have P2 : zs_P g2 0 P := zs_Pk hP ho.1 fun q _ _ => by rw [d5 q (by omega), c4 q (by omega)]
    have rr := zx_ro_rt (v := v) (x := x3) n s 1 P
    rw [Nat.one_mul] at rr
    obtain ⟨h', g', w6, w9, w10, w11, w12, w13, w14, q1, q2, q3⟩ := ih (s + 1) h2 g2 .null (.long (lN (zx_ro v n s 1 P).1)) u11 (.int (nI n)) u13 u14 (by omega) d2 P2
    refine ⟨h', g', w6, w9, w10, w11, w12, w13, w14, ?_, q2, q3⟩
    have d1' : zm_den 4 178 53 [.ref 137, .int (nI v), .int (nI n), .int x3, .int x4, .long (lN (zx_S (fun s => zx_rt v x3 n s P) s)), v6, .long l7, v8, .int (nI s), .long 1, .null, .int 0, v13, v14] [] h1 = _ := d1
    have E : zm_den 4 178 32 [.ref 137, .int (nI v), .int (nI n), .int x3, .int x4, .long (lN (zx_S (fun s => zx_rt v x3 n s P) s)), v6, .long l7, v8, .int (nI s), v10, v11, v12, v13, v14] [] h = zm_den 4 178 144 [.ref 137, .int (nI v), .int (nI n), .int x3, .int x4, .long (lN (zx_S (fun s => zx_rt v x3 n s P) s)), v6, .long l7, v8, .int (nI s), .long (lN (zx_ro v n s 1 P).1), u11, .int (nI n), u13, u14] [] h2 := by
      rw [zb178_32, zx_p2 n (by omega), if_neg (nI_ge (a := s) (b := 2 ^ n) (by omega) (by omega)), zm_nx, zb178_40]
      simp only [J.1.1, zq_rc_o, c1', zq_bv_o, zm_nx]
      exact d1'
    rw [E, zb178_144]
    obtain ⟨S, s1, s2⟩ := zr_sum_n d4
    have su : zm_call 145 [.ref 137, .int (124 : Int32)] h2 = some (some (.int (zr_sum (zx_ro v n s 1 P).2.1 (zx_ro v n s 1 P).2.2.1)), h2) := qm_sum (p := 124) (zo_Ms d2.1) d3 (by omega) d4.1
    have rg : zm_call 143 [.ref 137, .int (124 : Int32)] h2 = some (some (.int (zp_reign (zx_ro v n s 1 P).2)), h2) := qm_reign (p := 124) (zo_Ms d2.1) d3 (by omega) d4.1
    rw [s2] at su
    have fin : ∀ c : Nat, c < 2 ^ 31 → zp_val x3 (zx_ro v n s 1 P).2 = c → lN (zx_S (fun s => zx_rt v x3 n s P) s) + lN (zx_ro v n s 1 P).1 * (nI c).toInt64 = lN (zx_S (fun s => zx_rt v x3 n s P) (s + 1)) := by
      intro c hc e
      rw [nI_l hc, lN_mul, lN_add]
      show _ = lN (zx_S (fun s => zx_rt v x3 n s P) s + zx_rt v x3 n s P)
      rw [← rr, e]
    by_cases z : x3 = 0
    · rw [if_pos z, zm_nx, zb178_161]
      simp only [d2.1.1, zq_rc_o, rg, zq_bi_o, zm_nx]
      by_cases y : zp_reign (zx_ro v n s 1 P).2 = -4
      · have f := fin 0 (by decide) (by unfold zp_val; rw [if_pos z, if_pos y])
        have f' : lN (zx_S (fun s => zx_rt v x3 n s P) s) + lN (zx_ro v n s 1 P).1 * (0 : Int32).toInt64 = _ := f
        rw [if_pos y, zb178_176, zm_nx, zb178_177, zm_nx, f', nI_1]
        exact q1
      · have f := fin 1 (by decide) (by unfold zp_val; rw [if_pos z, if_neg y])
        have f' : lN (zx_S (fun s => zx_rt v x3 n s P) s) + lN (zx_ro v n s 1 P).1 * (1 : Int32).toInt64 = _ := f
        rw [if_neg y, zb178_172, zm_nx, zb178_177, zm_nx, f', nI_1]
        exact q1
    · rw [if_neg z, zm_nx, zb178_152]
      simp only [d2.1.1, zq_rc_o, su, zq_bi_o, zm_nx]
      have f := fin S (by omega) (by unfold zp_val; rw [if_neg z, s2, nI_clamp (by omega)])
      rw [zb178_177, zm_nx, f, nI_1]
      exact q1
theorem qm_salt_d {l5 : Int64} {v6 v10 v11 v12 v13 v14 : Value} (hn : n ≤ 8) : ∀ (k t : Nat) (v8 : Value), t + k = n → ∃ u8, zm_den 4 178 9 [.ref 137, .int (nI v), .int (nI n), .int x3, .int x4, .long l5, v6, .long (lN (10 ^ t)), v8, .int (nI t), v10, v11, v12, v13, v14] [] h = zm_den 4 178 32 [.ref 137, .int (nI v), .int (nI n), .int x3, .int x4, .long l5, v6, .long (lN (10 ^ n)), u8, .int (nI 0), v10, v11, v12, v13, v14] [] h := by
  intro k
  induction k with
  | zero =>
    intro t v8 ht
    have : t = n := by omega
    subst this
    refine ⟨v8, ?_⟩
    rw [zb178_9, if_pos (nI_le (Nat.le_refl _) (by omega)), zm_nx, zb178_29, zm_nx]
    rfl
  | succ k ih =>
    intro t v8 ht
    obtain ⟨u8, e⟩ := ih (t + 1) .null (by omega)
    refine ⟨u8, ?_⟩
    rw [zb178_9, if_neg (nI_ge (a := t) (b := n) (by omega) (by omega)), zm_nx, zb178_15, zm_nx, nI_1, show (10 : Int64) = lN 10 from rfl, lN_mul, ← Nat.pow_succ]
    exact e
theorem qm_salt (hv : v ≤ 10) (hn : n ≤ 8) (ho : zp_ok P) (hd : P.2.2.2.2 < 1000) (x3b : x3 = 0 ∨ x3 = 1) (J : zo_J h0 h A0 g0 A g) (hP : zs_P g 0 P) : ∃ h' g', zm_call 178 [.ref 137, .int (nI v), .int (nI n), .int x3, .int x4] h = some (some (.long (zx_fr (zp_Wt v x3 n P) (10 ^ n) x4)), h') ∧ zo_J h0 h' A0 g0 A g' ∧ zs_P g' 0 P := by
  obtain ⟨u8, e1⟩ := qm_salt_d (h := h) (v := v) (x3 := x3) (x4 := x4) (l5 := 0) (v6 := .null) (v10 := .null) (v11 := .null) (v12 := .null) (v13 := .null) (v14 := .null) hn n 0 .null (by omega)
  obtain ⟨h', g', w6, w9, w10, w11, w12, w13, w14, q1, q2, q3⟩ := qm_salt_o (x4 := x4) (l7 := lN (10 ^ n)) (v8 := u8) hv hn ho hd x3b (2 ^ n) 0 h g .null .null .null .null .null .null (by omega) J hP
  refine ⟨h', g', ?_, q2, q3⟩
  have pn : 10 ^ n ≤ 100000000 := by
    have : 10 ^ n ≤ 10 ^ 8 := Nat.pow_le_pow_right (by decide) hn
    omega
  have p0 : 0 < 10 ^ n := Nat.pos_of_ne_zero (by
    have := Nat.pow_le_pow_right (n := 10) (by decide) (Nat.zero_le n)
    omega)
  have wl := zp_Wt_le (x := x3) hv n P ho
  have e1' : zm_den 4 178 9 [.ref 137, .int (nI v), .int (nI n), .int x3, .int x4, .long 0, .null, .long 1, .null, .int 0, .null, .null, .null, .null, .null] [] h = zm_den 4 178 32 [.ref 137, .int (nI v), .int (nI n), .int x3, .int x4, .long (lN (zx_S (fun s => zx_rt v x3 n s P) 0)), .null, .long (lN (10 ^ n)), u8, .int (nI 0), .null, .null, .null, .null, .null] [] h := e1
  rw [zc178, zm_nx, zb178_0, zm_nx, e1', q1, zb178_188, zx_SW, qm_low (by omega) (by omega) p0, zq_bl_o]
end ZT67
