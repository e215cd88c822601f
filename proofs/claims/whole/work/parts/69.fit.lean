abbrev zs_T : Type := Nat × (Nat → Int32) × (Nat → Int32)
def zx_sd (b : Int32) : Int32 := if b = 9 then -4 else b
def zx_as (s : zs_T) (n d : Int32) : Nat → Nat → Bool
  | 0, _ => true
  | k + 1, j => if s.2.1 j = n then (if zx_sd (s.2.2 j) = d then zx_as s n d k (j + 1) else false) else zx_as s n d k (j + 1)
def zp_fit (s : zs_T) : Nat → Nat → zp_T → Bool
  | 0, _, _ => true
  | k + 1, n, P => if zx_as s (nI n) (zp_dec P) s.1 0 = true then zp_fit s k (n + 1) (zp_pass P) else false
def zx_b (b : Bool) : Int32 := if b = true then 1 else 0
section ZT69
variable {h : zm_H} {Y : zy_T} {P : zp_T} {i : Nat}
theorem zx_as_t {s : zs_T} {n d : Int32} : ∀ k j, (∀ q, j ≤ q → q < j + k → ¬ s.2.1 q = n) → zx_as s n d k j = true
  | 0, _, _ => rfl
  | k + 1, j, h => by
    unfold zx_as
    rw [if_neg (h j (by omega) (by omega))]
    exact zx_as_t k (j + 1) fun q q1 q2 => h q (by omega) (by omega)
theorem zp_fit_t {s : zs_T} : ∀ (k n : Nat) (P : zp_T), (∀ j m, j < s.1 → n ≤ m → m < n + k → ¬ s.2.1 j = nI m) → zp_fit s k n P = true
  | 0, _, _, _ => rfl
  | k + 1, n, P, h => by
    unfold zp_fit
    rw [zx_as_t s.1 0 fun q _ q2 => h q n (by omega) (by omega) (by omega), if_pos rfl]
    exact zp_fit_t k (n + 1) _ fun j m j1 m1 m2 => h j m j1 (by omega) (by omega)
theorem qc_seen_l {n d : Int32} (hK : zk_K h Y) : ∀ (k j : Nat) (v4 : Value), j + k = Y.2.2.2.1.1 → zm_den 1 119 2 [.ref 0, .int n, .int d, .int (nI j), v4] [] h = some (some (.int (zx_b (zx_as Y.2.2.2.1 n d k j))), h) := by
  have k0 := hK.1
  obtain ⟨t0, ⟨g1, r1, r2⟩, ⟨g2, r3, r4⟩, t3⟩ := id hK.2.2.2.2.1
  have h6 : (6 : Nat) < 2 ^ 31 := by decide
  intro k
  induction k with
  | zero =>
    intro j v4 hj
    rw [zb119_2]
    simp only [k0, zki10, nI_leB (show Y.2.2.2.1.1 < 100000 by omega) (show j < 100000 by omega), show Y.2.2.2.1.1 ≤ j by omega, if_true, zm_nx]
    rw [zb119_58, zq_rz_1]
    rfl
  | succ k ih =>
    intro j v4 hj
    have E : zm_den 1 119 2 [.ref 0, .int n, .int d, .int (nI j), v4] [] h = zm_den 1 119 32 [.ref 0, .int n, .int d, .int (nI j), v4] [.int (zx_sd (Y.2.2.2.1.2.2 j))] h := by
      rw [zb119_2]
      simp only [k0, zki10, nI_leB (show Y.2.2.2.1.1 < 100000 by omega) (show j < 100000 by omega), show ¬ Y.2.2.2.1.1 ≤ j by omega, if_false, zm_nx]
      rw [zb119_10]
      simp only [k0, zkr9, r3, zq_al_o (show j < 6 by omega) h6, r4 j (by omega), zm_nx]
      unfold zx_sd
      by_cases z : Y.2.2.2.1.2.2 j = 9
      · rw [if_neg (not_not_intro z), if_pos z, zb119_21, zm_nx]
      · rw [if_pos z, if_neg z, zb119_26]
        simp only [k0, zkr9, r3, zq_al_o (show j < 6 by omega) h6, r4 j (by omega), zm_nx]
    rw [E, zb119_32]
    simp only [k0, zkr8, r1, zq_al_o (show j < 6 by omega) h6, r2 j (by omega), zm_nx]
    unfold zx_as
    by_cases z : Y.2.2.2.1.2.1 j = n
    · rw [if_neg (not_not_intro z), zb119_44, if_pos z]
      by_cases y : zx_sd (Y.2.2.2.1.2.2 j) = d
      · rw [if_pos y, zm_nx, zb119_52, zm_nx, nI_1, if_pos y]
        exact ih (j + 1) _ (by omega)
      · rw [if_neg y, zm_nx, zb119_50, zq_rz_0, if_neg y]
        rfl
    · rw [if_pos z, zb119_52, zm_nx, nI_1, if_neg z]
      exact ih (j + 1) _ (by omega)
theorem qc_seen {n d : Int32} (hK : zk_K h Y) : zm_call 119 [.ref 0, .int n, .int d] h = some (some (.int (zx_b (zx_as Y.2.2.2.1 n d Y.2.2.2.1.1 0))), h) := by
  rw [zc119, zm_nx, zb119_0, zm_nx]
  exact qc_seen_l hK Y.2.2.2.1.1 0 .null (by omega)
theorem qc_last_l (hK : zk_K h Y) : ∀ (k j : Nat) (x : Int32), j + k = Y.2.2.2.1.1 → (∀ q, q < j → Y.2.2.2.1.2.1 q ≤ x) → (x = -4 ∨ ∃ l, l < 31 ∧ x = nI l) → ∃ L, zm_den 1 118 5 [.ref 0, .int x, .int (nI j)] [] h = some (some (.int L), h) ∧ (∀ q, q < Y.2.2.2.1.1 → Y.2.2.2.1.2.1 q ≤ L) ∧ (L = -4 ∨ ∃ l, l < 31 ∧ L = nI l) := by
  have k0 := hK.1
  obtain ⟨t0, ⟨g1, r1, r2⟩, ⟨g2, r3, r4⟩, t3⟩ := id hK.2.2.2.2.1
  intro k
  induction k with
  | zero =>
    intro j x hj h1 h2
    refine ⟨x, ?_, fun q hq => h1 q (by omega), h2⟩
    rw [zb118_5]
    simp only [k0, zki10, nI_leB (show Y.2.2.2.1.1 < 100000 by omega) (show j < 100000 by omega), show Y.2.2.2.1.1 ≤ j by omega, if_true, zm_nx, zb118_30]
  | succ k ih =>
    intro j x hj h1 h2
    obtain ⟨a, ha, ea⟩ := (t3 j (by omega)).1
    obtain ⟨L, e1, e2, e3⟩ := ih (j + 1) (if x < Y.2.2.2.1.2.1 j then Y.2.2.2.1.2.1 j else x) (by omega) (fun q hq => by
      by_cases z : x < Y.2.2.2.1.2.1 j
      · rw [if_pos z]
        by_cases e : q = j
        · subst e
          exact Int32.le_refl _
        · have := h1 q (by omega)
          rw [Int32.le_iff_toInt_le] at this ⊢
          rw [Int32.lt_iff_toInt_lt] at z
          omega
      · rw [if_neg z]
        by_cases e : q = j
        · subst e
          exact Int32.not_lt.mp z
        · exact h1 q (by omega)) (by
      by_cases z : x < Y.2.2.2.1.2.1 j
      · rw [if_pos z]
        exact Or.inr ⟨a, ha, ea⟩
      · rw [if_neg z]
        exact h2)
    refine ⟨L, ?_, e2, e3⟩
    rw [zb118_5]
    simp only [k0, zki10, nI_leB (show Y.2.2.2.1.1 < 100000 by omega) (show j < 100000 by omega), show ¬ Y.2.2.2.1.1 ≤ j by omega, if_false, zm_nx]
    rw [zb118_13]
    simp only [k0, zkr8, r1, zq_al_o (show j < 6 by omega) (show (6 : Nat) < 2 ^ 31 by decide), r2 j (by omega), zm_nx, nI_1]
    exact e1
theorem qc_last (hK : zk_K h Y) : ∃ L, zm_call 118 [.ref 0] h = some (some (.int L), h) ∧ (∀ q, q < Y.2.2.2.1.1 → Y.2.2.2.1.2.1 q ≤ L) ∧ (L = -4 ∨ ∃ l, l < 31 ∧ L = nI l) := by
  obtain ⟨L, e1, e2⟩ := qc_last_l hK Y.2.2.2.1.1 0 (-4) (by omega) (fun q hq => absurd hq (by omega)) (Or.inl rfl)
  refine ⟨L, ?_, e2⟩
  rw [zc118, zm_nx, zb118_0, zm_nx]
  exact e1
theorem qc_fit_l {x1 x2 x3 L : Int32} (hL : ∀ q, q < Y.2.2.2.1.1 → Y.2.2.2.1.2.1 q ≤ L) (hl : L = -4 ∨ ∃ l, l < 31 ∧ L = nI l) : ∀ (k n : Nat) (h : zm_H) (P : zp_T), n + k = 31 → P.2.2.2.2 + k < 100000 → zk_K h Y → zp_V h 11 P → ∃ h', zm_den 5 117 37 [.ref 0, .int x1, .int x2, .int x3, .int L, .int (nI n)] [] h = some (some (.int (zx_b (zp_fit Y.2.2.2.1 k n P))), h') ∧ zk_K h' Y ∧ zm_Fr h h' 11 21 := by
  have h10 : ¬ (1 : Int32) = 0 := by decide
  intro k
  induction k with
  | zero =>
    intro n h P hn hd hK hV
    have : n = 31 := by omega
    subst this
    refine ⟨h, ?_, hK, zFr_rf _ _ _⟩
    have c : L < nI 31 := by
      rcases hl with e | ⟨l, h1, e⟩
      · rw [e]; decide
      · rw [e]; exact nI_lt h1 (by decide)
    rw [zb117_37, if_pos c, zm_nx, zb117_78, zq_rz_1]
    rfl
  | succ k ih =>
    intro n h P hn hd hK hV
    by_cases c : L < nI n
    · refine ⟨h, ?_, hK, zFr_rf _ _ _⟩
      rw [zb117_37, if_pos c, zm_nx, zb117_78, zq_rz_1, zp_fit_t (k + 1) n P fun j m j1 m1 m2 e => by
        have a := hL j j1
        rw [e, Int32.le_iff_toInt_le, nI_toInt (by omega)] at a
        rw [Int32.lt_iff_toInt_lt, nI_toInt (by omega)] at c
        omega]
      rfl
    · obtain ⟨ad, Q, -, -, v1, v2, v3, v4⟩ := zV_row hV
      have se := qc_seen (n := nI n) (d := zp_dec P) hK
      have E : zm_den 5 117 37 [.ref 0, .int x1, .int x2, .int x3, .int L, .int (nI n)] [] h = (if ¬ zx_b (zx_as Y.2.2.2.1 (nI n) (zp_dec P) Y.2.2.2.1.1 0) = 0 then zm_den 5 117 65 [.ref 0, .int x1, .int x2, .int x3, .int L, .int (nI n)] [] h else zm_den 5 117 63 [.ref 0, .int x1, .int x2, .int x3, .int L, .int (nI n)] [] h) := by
        rw [zb117_37, if_neg c, zm_nx, zb117_44]
        simp only [hK.1, zkr1, v1, zgr_1_0, v2, zq_rc_o, qv_dec hV, zq_bi_o, se, zm_nx]
      rw [E]
      unfold zp_fit
      cases hb : zx_as Y.2.2.2.1 (nI n) (zp_dec P) Y.2.2.2.1.1 0 with
      | false =>
        refine ⟨h, ?_, hK, zFr_rf _ _ _⟩
        rw [if_neg (by decide), zb117_63, zq_rz_0, if_neg (by decide)]
        rfl
      | true =>
        obtain ⟨h1, e1, e2, e3⟩ := qv_pass hV (by omega)
        obtain ⟨h', d1, d2, d3⟩ := ih (n + 1) h1 (zp_pass P) (by omega) (by show P.2.2.2.2 + 1 + k < _; omega) (zk_tr hK e2 e3) e2
        refine ⟨h', ?_, d2, zFr_tr e3 d3⟩
        rw [if_pos (by decide), zb117_65]
        simp only [hK.1, zkr1, v1, zq_rc_o, e1, zq_bv_o, nI_1, zm_nx, if_true]
        exact d1
theorem qc_fit {w v : Nat} (hi : i < Y.1.1) (hK : zk_K h Y) : ∃ h', zm_call 117 [.ref 0, .int (nI i), .int (nI w), .int (nI v)] h = some (some (.int (zx_b (zp_fit Y.2.2.2.1 31 0 (zp_sf Y.1 i (zf_put (Y.1.2.1 i) (nI w) (nI v)))))), h') ∧ zk_K h' Y ∧ zm_Fr h h' 11 21 := by
  have k0 := hK.1
  obtain ⟨kV, kO, kd⟩ := hK.2.1
  have i5 : i < 5 := Nat.lt_of_lt_of_le hi kO.1
  obtain ⟨h1, t1, t2, t3, t4⟩ := zk_trial hK
  obtain ⟨gb, c, s1, s2, s3, s4, s5, s6⟩ := zV_sf t2 hi
  obtain ⟨ad0, Q0, -, -, u1, u2, u3, u4⟩ := zV_row hK.2.2.1.1.choose_spec
  obtain ⟨ad1, Q1, -, -, y1, y2, y3, y4⟩ := zV_row t2
  have pu := qc_put (k := nI w) (v := nI v) s3
  have V2 := s6 (zm_s h1 c (zf_c (zf_put (Y.1.2.1 i) (nI w) (nI v)))) (fun b _ _ hb => zg_sn hb) _ zg_ss
  have F2 : zm_Fr h1 (zm_s h1 c (zf_c (zf_put (Y.1.2.1 i) (nI w) (nI v)))) 11 21 := zFr_s (by omega) (by omega)
  have K2 := zk_tr t3 V2 F2
  obtain ⟨L, l1, l2, l3⟩ := qc_last K2
  obtain ⟨h3, r1, r2, r3⟩ := qc_fit_l (x1 := nI i) (x2 := nI w) (x3 := nI v) l2 l3 31 0 _ _ (by omega) (by show Y.1.2.2.2.2 + 31 < _; omega) K2 V2
  refine ⟨h3, ?_, r2, zFr_tr t4 (zFr_tr F2 r3)⟩
  rw [zc117, zm_nx, zb117_0]
  simp only [k0, zkr1, zkr0, u1, zq_rc_o, t1, zq_bv_o, t3.1, y1, zgr_1_0, y2, zgr_2_0, s1, zq_ql_o i5 (show (5 : Nat) < 2 ^ 31 by decide) s2, s3, zrf_c, pu, K2.1, l1, zq_bi_o, zm_nx]
  exact r1
def zp_fb (s : zs_T) (i w : Nat) (P : zp_T) : Nat → Nat → Int32 → Int32
  | 0, _, a => a
  | k + 1, v, a => zp_fb s i w P k (v + 1) (if zp_fit s 31 0 (zp_sf P i (zf_put (P.2.1 i) (nI w) (nI v))) = true then a ||| ((1 : Int32) <<< (nI v &&& 31)) else a)
theorem qc_fb_l {w M : Nat} (hi : i < Y.1.1) (hM : M < 100) : ∀ (k v : Nat) (a : Int32) (h : zm_H), v + k = M + 1 → zk_K h Y → ∃ h', zm_den 6 116 6 [.ref 0, .int (nI i), .int (nI w), .int (nI M), .int a, .int (nI v)] [] h = some (some (.int (zp_fb Y.2.2.2.1 i w Y.1 k v a)), h') ∧ zk_K h' Y ∧ zm_Fr h h' 11 21 := by
  have h10 : ¬ (1 : Int32) = 0 := by decide
  intro k
  induction k with
  | zero =>
    intro v a h hv hK
    refine ⟨h, ?_, hK, zFr_rf _ _ _⟩
    rw [zb116_6, if_pos (nI_lt (by omega) (by omega)), zm_nx, zb116_38]
    rfl
  | succ k ih =>
    intro v a h hv hK
    obtain ⟨h1, e1, e2, e3⟩ := qc_fit (w := w) (v := v) hi hK
    rw [zb116_6, if_neg (nI_nlt (by omega) (by omega)), zm_nx, zb116_12]
    simp only [hK.1, zq_rc_o, e1, zq_bi_o, zm_nx]
    unfold zp_fb
    cases hb : zp_fit Y.2.2.2.1 31 0 (zp_sf Y.1 i (zf_put (Y.1.2.1 i) (nI w) (nI v))) with
    | false =>
      obtain ⟨h', d1, d2, d3⟩ := ih (v + 1) a h1 (by omega) e2
      refine ⟨h', ?_, d2, zFr_tr e3 d3⟩
      rw [if_pos (by decide), zb116_32, zm_nx, nI_1, if_neg (by decide)]
      exact d1
    | true =>
      obtain ⟨h', d1, d2, d3⟩ := ih (v + 1) (a ||| ((1 : Int32) <<< (nI v &&& 31))) h1 (by omega) e2
      refine ⟨h', ?_, d2, zFr_tr e3 d3⟩
      rw [if_neg (by decide), zb116_23, zm_nx, zb116_32, zm_nx, nI_1, if_pos rfl]
      exact d1
theorem qc_fb {w M : Nat} (hi : i < Y.1.1) (hM : M < 100) (hK : zk_K h Y) : ∃ h', zm_call 116 [.ref 0, .int (nI i), .int (nI w), .int (nI M)] h = some (some (.int (zp_fb Y.2.2.2.1 i w Y.1 (M + 1) 0 0)), h') ∧ zk_K h' Y ∧ zm_Fr h h' 11 21 := by
  obtain ⟨h', d1, d2, d3⟩ := qc_fb_l (w := w) hi hM (M + 1) 0 0 h (by omega) hK
  refine ⟨h', ?_, d2, d3⟩
  rw [zc116, zm_nx, zb116_0, zm_nx]
  exact d1
end ZT69
