theorem zr_from_spec (v : Nat → zf_T) : ∀ k i, zr_from v k i = -4 ∨ ∃ j, i ≤ j ∧ j < i + k ∧ zr_from v k i = nI j
  | 0, _ => Or.inl rfl
  | k + 1, i => by
    unfold zr_from
    by_cases h : (v i).2.1 ≤ 0
    · rw [if_pos h]
      rcases zr_from_spec v k (i + 1) with h2 | ⟨j, h3, h4, h5⟩
      · exact Or.inl h2
      · exact Or.inr ⟨j, by omega, by omega, h5⟩
    · rw [if_neg h]
      exact Or.inr ⟨i, by omega, by omega, rfl⟩
theorem zr_reign_spec (n : Nat) (v : Nat → zf_T) : zr_reign n v = -4 ∨ ∃ j, j < n ∧ zr_reign n v = nI j := by
  rcases zr_from_spec v n 0 with h | ⟨j, h1, h2, h3⟩
  · exact Or.inl h
  · exact Or.inr ⟨j, by omega, h3⟩
theorem nI_ne4 {j : Nat} (h : j < 2 ^ 31) : ¬ nI j = -4 := by
  intro e
  have := congrArg Int32.toInt e
  rw [nI_toInt h] at this
  have h4 : (-4 : Int32).toInt = -4 := by decide
  rw [h4] at this
  omega
def zr_dec (n : Nat) (v : Nat → zf_T) : Int32 := if ¬ zr_reign n v = -4 then (v (zr_reign n v).toNatClampNeg).2.2 - (v (zr_reign n v).toNatClampNeg).2.2 / 4 * 4 else -4
noncomputable def zc_cnt (x0 : Int32) : Int32 := match zm_den 1 0 0 [.int x0] [] (0, 0, fun _ => zm_J) with
  | some (some (.int x), _) => x
  | _ => 0
section ZROW2
variable {h : zm_H} {r : Nat} {ad : Nat → Nat} {n : Nat} {v : Nat → zf_T}
theorem qc_count (x : Int32) : zm_call 0 [.int x] h = some (some (.int (zc_cnt x)), h) := by
  rw [zc0, zm_nx]
  unfold zc_cnt
  rw [zb0_0, zb0_0]
theorem qc_dec (hW : zr_W h r ad n v) : zm_call 23 [.ref r] h = some (some (.int (zr_dec n v)), h) := by
  have hr := qc_reign hW
  obtain ⟨h1, h2, ⟨g, h3, h4⟩, h5, h6, h7⟩ := hW
  rw [zc23, zm_nx, zb23_0]
  simp only [h2, zq_rc_o, hr, zq_bi_o, zr_dec]
  rcases zr_reign_spec n v with e | ⟨j, hj, e⟩
  · simp only [e, not_true_eq_false, if_false, zm_nx, zb23_11, zb23_27]
  · simp only [e, nI_ne4 (show j < 2 ^ 31 by omega), not_false_eq_true, if_true, zm_nx, zb23_16, h2, zgr_2_0, h3, zq_ql_o (show j < 5 by omega) (by decide) (h4 j (by omega)), h5 j (by omega), zf_c, zgi_0_2, zb23_27, nI_clamp (show j < 2 ^ 31 by omega)]
theorem qc_num (hW : zr_W h r ad n v) : zm_call 25 [.ref r] h = some (some (.int (zc_cnt (zr_bits n v))), h) := by
  have hr := qc_bits hW
  obtain ⟨h1, h2, ⟨g, h3, h4⟩, h5, h6, h7⟩ := hW
  rw [zc25, zm_nx, zb25_0]
  simp only [h2, zq_rc_o, hr, zq_bi_o, qc_count]
theorem zr_num {h : zm_H} {r : Nat} {ad : Nat → Nat} {n m : Nat} {v : Nat → zf_T} (hm : m ≤ 5) (hW : zr_W h r ad n v) : zr_W (zm_s h r (.inr (2, [.ref (r + 1), .int (nI m)]))) r ad m v := by
  obtain ⟨h1, h2, ⟨g, h3, h4⟩, h5, h6, h7⟩ := hW
  refine ⟨hm, zg_ss, ⟨g, by rw [zg_sn (by omega)]; exact h3, h4⟩, fun i hi => ?_, h6, h7⟩
  have := h6 i hi
  rw [zg_sn (by omega)]
  exact h5 i hi
theorem qc_add {f : zf_T} (hW : zr_W h r ad n v) (hn : n < 5) : ∃ h', zm_call 20 [.ref r, .int f.1, .int f.2.1, .int f.2.2] h = some (none, h') ∧ zr_W h' r ad (n + 1) (fun j => if j = n then f else v j) ∧ zm_Fr h h' r (r + 7) := by
  obtain ⟨h1, h2, ⟨g, h3, h4⟩, h5, h6, h7⟩ := id hW
  have hb := h6 n hn
  have hW2 := zr_num (m := n + 1) (by omega) (zr_set hW hn f)
  refine ⟨_, ?_, hW2, zFr_tr (zFr_s (by omega) hb.2) (zFr_s (Nat.le_refl r) (by omega))⟩
  rw [zc20, zm_nx, zb20_0]
  have hlt : (nI n < (5 : Int32)) = True := eq_true ((nI_ltI (a := n) (b := 5) (by omega) (by decide)).mpr hn)
  simp only [h2, zgi_2_1, hlt, if_true, zm_nx, zb20_9, zgr_2_0, h3, zq_ql_o hn (by decide) (h4 n hn), h5 n hn, zf_c, zpi_0_0, zg_ss, zpi_0_1, zpi_0_2, zs_ss, zg_sn (show r ≠ ad n by omega), zpi_2_1, nI_1]
theorem qc_exch {i j : Nat} (hW : zr_W h r ad n v) (hi : i < 5) (hj : j < 5) (hij : i ≠ j) : ∃ h', zm_call 21 [.ref r, .int (nI i), .int (nI j)] h = some (none, h') ∧ zr_W h' r (fun k => if k = j then ad i else if k = i then ad j else ad k) n (fun k => if k = j then v i else if k = i then v j else v k) ∧ zm_Fr h h' r (r + 7) := by
  obtain ⟨h1, h2, ⟨g, h3, h4⟩, h5, h6, h7⟩ := id hW
  have hbi := h6 i hi
  have hbj := h6 j hj
  refine ⟨zm_s h (r + 1) (.inl (3, 5, .inr (.inr (.inr (.inr (va_up (va_up g i (some (ad j))) j (some (ad i)))))))), ?_, ?_, zFr_s (by omega) (by omega)⟩
  · rw [zc21, zm_nx, zb21_0]
    simp only [h2, zgr_2_0, h3, zq_ql_o hi (by decide) (h4 i hi), zq_ql_o hj (by decide) (h4 j hj), h5 j hj, zf_c, zq_qs_o hi (show (5 : Nat) < 2 ^ 31 by decide), zg_sn (show r ≠ r + 1 by omega), zg_ss, zg_sn (show ad i ≠ r + 1 by omega), h5 i hi, zq_qs_o hj (show (5 : Nat) < 2 ^ 31 by decide), zs_ss]
  · refine ⟨h1, by rw [zg_sn (by omega)]; exact h2, ⟨_, zg_ss, fun k hk => ?_⟩, fun k hk => ?_, fun k hk => ?_, fun a b ha hb e => ?_⟩
    · show (if k = j then some (ad i) else if k = i then some (ad j) else g k) = some (if k = j then ad i else if k = i then ad j else ad k)
      by_cases e1 : k = j
      · rw [if_pos e1, if_pos e1]
      · rw [if_neg e1, if_neg e1]
        by_cases e2 : k = i
        · rw [if_pos e2, if_pos e2]
        · rw [if_neg e2, if_neg e2]
          exact h4 k hk
    · show zm_g _ (if k = j then ad i else if k = i then ad j else ad k) = zf_c (if k = j then v i else if k = i then v j else v k)
      by_cases e1 : k = j
      · rw [if_pos e1, if_pos e1, zg_sn (by omega)]
        exact h5 i hi
      · rw [if_neg e1, if_neg e1]
        by_cases e2 : k = i
        · rw [if_pos e2, if_pos e2, zg_sn (by omega)]
          exact h5 j hj
        · have := h6 k hk
          rw [if_neg e2, if_neg e2, zg_sn (by omega)]
          exact h5 k hk
    · show r + 2 ≤ (if k = j then ad i else if k = i then ad j else ad k) ∧ (if k = j then ad i else if k = i then ad j else ad k) < r + 7
      by_cases e1 : k = j
      · rw [if_pos e1]; exact hbi
      · rw [if_neg e1]
        by_cases e2 : k = i
        · rw [if_pos e2]; exact hbj
        · rw [if_neg e2]; exact h6 k hk
    · have e : (if a = j then ad i else if a = i then ad j else ad a) = (if b = j then ad i else if b = i then ad j else ad b) := e
      by_cases a1 : a = j <;> by_cases b1 : b = j
      · omega
      · rw [if_pos a1, if_neg b1] at e
        by_cases b2 : b = i
        · rw [if_pos b2] at e
          exact absurd (h7 i j hi hj e) hij
        · rw [if_neg b2] at e
          exact absurd (h7 i b hi hb e).symm b2
      · rw [if_neg a1, if_pos b1] at e
        by_cases a2 : a = i
        · rw [if_pos a2] at e
          exact absurd (h7 j i hj hi e).symm hij
        · rw [if_neg a2] at e
          exact absurd (h7 a i ha hi e) a2
      · rw [if_neg a1, if_neg b1] at e
        by_cases a2 : a = i <;> by_cases b2 : b = i
        · omega
        · rw [if_pos a2, if_neg b2] at e
          exact absurd (h7 j b hj hb e).symm b1
        · rw [if_neg a2, if_pos b2] at e
          exact absurd (h7 a j ha hj e) a1
        · rw [if_neg a2, if_neg b2] at e
          exact h7 a b ha hb e
theorem qc_rcopy_l {q : Nat} {ad2 : Nat → Nat} {v2 : Nat → zf_T} (hd : r + 7 ≤ q ∨ q + 7 ≤ r) : ∀ (k i : Nat) (h : zm_H) (v : Nat → zf_T), i + k = n → zr_W h r ad n v → zr_W h q ad2 n v2 → ∃ h', zm_den 2 19 10 [.ref r, .ref q, .int (nI i)] [] h = some (none, h') ∧ zr_W h' r ad n (fun j => if i ≤ j ∧ j < n then v2 j else v j) ∧ zm_Fr h h' (r + 2) (r + 7) := by
  intro k
  induction k with
  | zero =>
    intro i h v hi hW hQ
    obtain ⟨h1, h2, h3, h4, h5, h6⟩ := id hW
    refine ⟨h, ?_, ?_, zFr_rf _ _ _⟩
    · rw [zb19_10]
      simp only [h2, zgi_2_1, nI_le5 h1 (show i ≤ 5 by omega), show n ≤ i by omega, if_true, zm_nx, zb19_39]
    · have : (fun j => if i ≤ j ∧ j < n then v2 j else v j) = v := by
        funext j
        rw [if_neg (by omega)]
      rw [this]
      exact hW
  | succ k ih =>
    intro i h v hi hW hQ
    obtain ⟨h1, h2, ⟨g, h3, h4⟩, h5, h6, h7⟩ := id hW
    obtain ⟨k1, k2, ⟨g2, k3, k4⟩, k5, k6, k7⟩ := id hQ
    have hs := qc_copy (h5 i (by omega)) (k5 i (by omega))
    have hb := h6 i (by omega)
    have hF : zm_Fr h (zm_s h (ad i) (zf_c (v2 i))) (r + 2) (r + 7) := zFr_s hb.1 hb.2
    obtain ⟨h', e1, e2, e3⟩ := ih (i + 1) _ _ (by omega) (zr_set hW (show i < 5 by omega) (v2 i)) (zr_keepF hQ hF (by omega))
    refine ⟨h', ?_, ?_, zFr_tr hF e3⟩
    · rw [zb19_10]
      simp only [h2, zgi_2_1, nI_le5 h1 (show i ≤ 5 by omega), show ¬ n ≤ i by omega, if_false, zm_nx, zb19_18, zgr_2_0, h3, zq_ql_o (show i < 5 by omega) (by decide) (h4 i (by omega)), k2, k3, zq_ql_o (show i < 5 by omega) (by decide) (k4 i (by omega)), hs]
      rw [h5 i (by omega)]
      simp only [zf_c, zq_rc_o, zq_bv_o, nI_1]
      exact e1
    · have : (fun j => if i ≤ j ∧ j < n then v2 j else v j) = (fun j => if i + 1 ≤ j ∧ j < n then v2 j else (if j = i then v2 i else v j)) := by
        funext j
        by_cases e : j = i
        · subst e
          rw [if_pos (by omega), if_neg (by omega), if_pos rfl]
        · by_cases e2 : i + 1 ≤ j ∧ j < n
          · rw [if_pos (by omega), if_pos e2]
          · rw [if_neg (by omega), if_neg e2, if_neg e]
      rw [this]
      exact e2
theorem qc_rcopy {q m : Nat} {ad2 : Nat → Nat} {v2 : Nat → zf_T} (hd : r + 7 ≤ q ∨ q + 7 ≤ r) (hW : zr_W h r ad n v) (hQ : zr_W h q ad2 m v2) : ∃ h', zm_call 19 [.ref r, .ref q] h = some (none, h') ∧ zr_W h' r ad m (fun j => if j < m then v2 j else v j) ∧ zm_Fr h h' r (r + 7) := by
  obtain ⟨h1, h2, ⟨g, h3, h4⟩, h5, h6, h7⟩ := id hW
  obtain ⟨k1, k2, ⟨g2, k3, k4⟩, k5, k6, k7⟩ := id hQ
  have hF : zm_Fr h (zm_s h r (.inr (2, [.ref (r + 1), .int (nI m)]))) r (r + 7) := zFr_s (Nat.le_refl r) (by omega)
  obtain ⟨h', e1, e2, e3⟩ := qc_rcopy_l (n := m) (r := r) (ad := ad) hd m 0 _ v (by omega) (zr_num k1 hW) (zr_keepF hQ hF (by omega))
  refine ⟨h', ?_, ?_, zFr_tr hF (zFr_mn e3 (by omega) (Nat.le_refl _))⟩
  · rw [zc19, zm_nx, zb19_0]
    simp only [k2, zgi_2_1, h2, zpi_2_1, zm_nx]
    exact e1
  · have : (fun j => if j < m then v2 j else v j) = (fun j => if 0 ≤ j ∧ j < m then v2 j else v j) := by
      funext j
      by_cases e : j < m
      · rw [if_pos e, if_pos (by omega)]
      · rw [if_neg e, if_neg (by omega)]
    rw [this]
    exact e2
end ZROW2
