/-- one call of both sides: the same answer, and both pictures stand again -/
def zt_R (M1 M2 : Nat) (as : List Value) (h : zm_H) : Prop := ∃ h1 h2 r Y', zm_call M1 (.ref 0 :: as) h = some (some (.int r), h1) ∧ zm_call M2 (.ref 137 :: as) h1 = some (some (.int r), h2) ∧ zk_K h2 Y' ∧ zo_K h2 Y' ∧ zm_Fr h h2 0 150 ∧ zm_Fr h h1 0 137
section ZOPS1
variable {h : zm_H} {Y : zy_T} {F k R : Int32} {m : Nat} {A : Nat → Int32}
theorem zkr0 {f : Nat → zm_O} : zq_gr (.inr (6, zk_c F k R)) 6 0 f = f 1 := rfl
theorem zkr1 {f : Nat → zm_O} : zq_gr (.inr (6, zk_c F k R)) 6 1 f = f 11 := rfl
theorem zkr2 {f : Nat → zm_O} : zq_gr (.inr (6, zk_c F k R)) 6 2 f = f 21 := rfl
theorem zkr3 {f : Nat → zm_O} : zq_gr (.inr (6, zk_c F k R)) 6 3 f = f 22 := rfl
theorem zkr4 {f : Nat → zm_O} : zq_gr (.inr (6, zk_c F k R)) 6 4 f = f 86 := rfl
theorem zkr6 {f : Nat → zm_O} : zq_gr (.inr (6, zk_c F k R)) 6 5 f = f 91 := rfl
theorem zki7 {f : Int32 → zm_O} : zq_gi (.inr (6, zk_c F k R)) 6 6 f = f F := rfl
theorem zki10 {f : Int32 → zm_O} : zq_gi (.inr (6, zk_c F k R)) 6 9 f = f k := rfl
theorem zki14 {f : Int32 → zm_O} : zq_gi (.inr (6, zk_c F k R)) 6 13 f = f R := rfl
theorem zoi4 {f : Int32 → zm_O} : zq_gi (.inr (7, zo_c m A)) 7 4 f = f (A 4) := rfl
theorem zoi5 {f : Int32 → zm_O} : zq_gi (.inr (7, zo_c m A)) 7 5 f = f (A 5) := rfl
theorem zoi19 {f : Int32 → zm_O} : zq_gi (.inr (7, zo_c m A)) 7 19 f = f (A 19) := rfl
theorem zoi25 {f : Int32 → zm_O} : zq_gi (.inr (7, zo_c m A)) 7 25 f = f (A 25) := rfl
theorem zt_ro {M1 M2 : Nat} {as : List Value} {r : Int32} (hK : zk_K h Y) (hO : zo_K h Y) (e1 : zm_call M1 (.ref 0 :: as) h = some (some (.int r), h)) (e2 : zm_call M2 (.ref 137 :: as) h = some (some (.int r), h)) : zt_R M1 M2 as h := ⟨h, h, r, Y, e1, e2, hK, hO, zFr_rf _ _ _, zFr_rf _ _ _⟩
theorem zt_fault (hK : zk_K h Y) (hO : zo_K h Y) : zt_R 65 134 [] h := by
  refine zt_ro (r := Y.2.2.1.1) hK hO ?_ ?_
  · rw [zc65, zm_nx, zb65_0, hK.1, zki7]
  · obtain ⟨A, g, a1, a2, a3, -⟩ := hO
    rw [zc134, zm_nx, zb134_0, a1.1, zoi5, a3.2.1]
theorem zt_torn (hK : zk_K h Y) (hO : zo_K h Y) : zt_R 103 195 [] h := by
  refine zt_ro (r := Y.2.2.1.2) hK hO ?_ ?_
  · rw [zc103, zm_nx, zb103_0, hK.1, zki14]
  · obtain ⟨A, g, a1, a2, a3, -⟩ := hO
    rw [zc195, zm_nx, zb195_0, a1.1, zoi25, a3.2.2.2]
theorem zts_c (x : Int32) (u : Nat) (hu : u < 2 ^ 31 - 1) : (x.toInt < 0 ∨ (u : Int) < x.toInt) ∨ ∃ j, j ≤ u ∧ x = nI j := by
  rcases pk_ix x (n := u + 1) (by omega) with h | h | ⟨j, hj, e⟩
  · rw [Int32.lt_iff_toInt_lt] at h
    exact Or.inl (Or.inl h)
  · rw [Int32.le_iff_toInt_le, nI_toInt (by omega)] at h
    exact Or.inl (Or.inr (by omega))
  · exact Or.inr ⟨j, by omega, e⟩
theorem zts_o {x : Int32} {u : Nat} {hi : Int} {ts : List Nat} {d : Nat} {f : Nat → zm_O} (hh : hi = (u : Int)) (hx : x.toInt < 0 ∨ (u : Int) < x.toInt) : zq_ts x 0 hi ts d f = f d := by
  subst hh
  exact if_pos hx
theorem zts_i {j u : Nat} {hi : Int} {ts : List Nat} {d : Nat} {f : Nat → zm_O} (hh : hi = (u : Int)) (hj : j ≤ u) (hu : u < 2 ^ 31) : zq_ts (nI j) 0 hi ts d f = f (ts.getD j 0) := by
  subst hh
  unfold zq_ts
  rw [nI_toInt (by omega), if_neg (by omega), Int.sub_zero, Int.toNat_natCast]
theorem zy_al {s : Nat} {g : Nat → Int32} {j : Nat} {f : Int32 → zm_O} {x y : Int32} (hx : x = nI j) (hj : j < s) (hs : s < 2 ^ 31) (hy : g j = y) : zq_al (.inl (0, s, .inl g)) 0 x f = f y := by
  rw [hx, ← hy]
  exact zq_al_o hj hs
theorem zt_rule (x : Int32) (hK : zk_K h Y) (hO : zo_K h Y) : zt_R 66 147 [.int x] h := by
  have k0 := hK.1
  obtain ⟨kV, kO, kd⟩ := hK.2.1
  obtain ⟨ad, Q, -, -, v1, v2, v3, v4⟩ := zV_row kV
  obtain ⟨A, g, a1, a2, a3, -⟩ := id hO
  rcases zts_c x 5 (by decide) with hx | ⟨j, hj, rfl⟩
  · refine zt_ro (r := -1) hK hO ?_ ?_
    · rw [zc66, zm_nx, zb66_0]
      rw [zts_o (hi := 5) (u := 5) rfl hx, zm_nx, zb66_103]
    · rw [zc147, zm_nx, zb147_0]
      rw [zts_o (hi := 5) (u := 5) rfl hx, zm_nx, zb147_80]
  · have t1 : zm_call 66 [.ref 0, .int (nI j)] h = zm_den 4 66 ([40, 51, 59, 70, 81, 92].getD j 0) [.ref 0, .int (nI j)] [] h := by
      rw [zc66, zm_nx, zb66_0]
      rw [zts_i (hi := 5) (u := 5) rfl hj (by decide), zm_nx]
    have t2 : zm_call 147 [.ref 137, .int (nI j)] h = zm_den 3 147 ([40, 48, 56, 62, 68, 74].getD j 0) [.ref 137, .int (nI j)] [] h := by
      rw [zc147, zm_nx, zb147_0]
      rw [zts_i (hi := 5) (u := 5) rfl hj (by decide), zm_nx]
    have hM := zo_Ms a1
    have w1 : zm_call 143 [.ref 137, .int (0 : Int32)] h = _ := qm_reign (p := 0) hM a2 (by omega) v3
    have w2 : zm_call 144 [.ref 137, .int (0 : Int32)] h = _ := qm_dec (p := 0) hM a2 (by omega) v3
    have w3 : zm_call 142 [.ref 137, .int (0 : Int32)] h = _ := qm_bits (p := 0) hM a2 (by omega) v3
    have w4 : zm_call 145 [.ref 137, .int (0 : Int32)] h = _ := qm_sum (p := 0) hM a2 (by omega) v3
    match j, hj with
    | 0, _ =>
      refine zt_ro (r := nI Y.1.1) hK hO (t1.trans ?_) (t2.trans ?_)
      · show zm_den 4 66 40 _ _ _ = _
        rw [zb66_40, k0, zkr0, v1, zgr_1_0, v2, zgi_2_1]
      · show zm_den 3 147 40 _ _ _ = _
        rw [zb147_40, a1.1, zor0, a1.2]
        exact zy_al (j := 15) rfl (by decide) (by decide) a2.1
    | 1, _ =>
      refine zt_ro (r := nI Y.1.2.2.2.2) hK hO (t1.trans ?_) (t2.trans ?_)
      · show zm_den 4 66 51 _ _ _ = _
        rw [zb66_51, k0, zkr0, v1, zgi_1_3]
      · show zm_den 3 147 48 _ _ _ = _
        rw [zb147_48, a1.1, zor0, a1.2]
        exact zy_al (j := 30) rfl (by decide) (by decide) a2.2.2.2
    | 2, _ =>
      refine zt_ro (r := zp_reign Y.1) hK hO (t1.trans ?_) (t2.trans ?_)
      · show zm_den 4 66 59 _ _ _ = _
        rw [zb66_59, k0, zkr0, v1, zgr_1_0, v2, zq_rc_o, qv_reign kV, zq_bi_o]
      · show zm_den 3 147 56 _ _ _ = _
        rw [zb147_56, a1.1, zq_rc_o, w1, zq_bi_o]
    | 3, _ =>
      refine zt_ro (r := zp_dec Y.1) hK hO (t1.trans ?_) (t2.trans ?_)
      · show zm_den 4 66 70 _ _ _ = _
        rw [zb66_70, k0, zkr0, v1, zgr_1_0, v2, zq_rc_o, qv_dec kV, zq_bi_o]
      · show zm_den 3 147 62 _ _ _ = _
        rw [zb147_62, a1.1, zq_rc_o, w2, zq_bi_o]
    | 4, _ =>
      refine zt_ro (r := zr_bits Y.1.1 Y.1.2.1) hK hO (t1.trans ?_) (t2.trans ?_)
      · show zm_den 4 66 81 _ _ _ = _
        rw [zb66_81, k0, zkr0, v1, zgr_1_0, v2, zq_rc_o, qv_bits kV, zq_bi_o]
      · show zm_den 3 147 68 _ _ _ = _
        rw [zb147_68, a1.1, zq_rc_o, w3, zq_bi_o]
    | 5, _ =>
      refine zt_ro (r := zr_sum Y.1.1 Y.1.2.1) hK hO (t1.trans ?_) (t2.trans ?_)
      · show zm_den 4 66 92 _ _ _ = _
        rw [zb66_92, k0, zkr0, v1, zgr_1_0, v2, zq_rc_o, qv_sum kV, zq_bi_o]
      · show zm_den 3 147 74 _ _ _ = _
        rw [zb147_74, a1.1, zq_rc_o, w4, zq_bi_o]
    | n + 6, hn => exact absurd hn (by omega)
end ZOPS1
