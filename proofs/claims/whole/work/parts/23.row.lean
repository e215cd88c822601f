def zm_Fr (h h' : zm_H) (lo hi : Nat) : Prop := h'.1 = h.1 ∧ h'.2.1 = h.2.1 ∧ ∀ b : Nat, (b < lo ∨ hi ≤ b) → zm_g h' b = zm_g h b
theorem zFr_rf (h : zm_H) (lo hi : Nat) : zm_Fr h h lo hi := ⟨rfl, rfl, fun _ _ => rfl⟩
theorem zFr_tr {a b c : zm_H} {lo hi : Nat} (h1 : zm_Fr a b lo hi) (h2 : zm_Fr b c lo hi) : zm_Fr a c lo hi := ⟨h2.1.trans h1.1, h2.2.1.trans h1.2.1, fun q hq => (h2.2.2 q hq).trans (h1.2.2 q hq)⟩
theorem zFr_mn {a b : zm_H} {lo hi lo' hi' : Nat} (h1 : zm_Fr a b lo hi) (h2 : lo' ≤ lo) (h3 : hi ≤ hi') : zm_Fr a b lo' hi' := ⟨h1.1, h1.2.1, fun q hq => h1.2.2 q (by omega)⟩
theorem zFr_s {h : zm_H} {a : Nat} {c : va_E} {lo hi : Nat} (h1 : lo ≤ a) (h2 : a < hi) : zm_Fr h (zm_s h a c) lo hi := ⟨rfl, rfl, fun q hq => zg_sn (by omega)⟩
def zr_W (h : zm_H) (r : Nat) (ad : Nat → Nat) (n : Nat) (v : Nat → zf_T) : Prop :=
  n ≤ 5 ∧ zm_g h r = .inr (2, [.ref (r + 1), .int (nI n)]) ∧ (∃ g : Nat → Option Nat, zm_g h (r + 1) = .inl (3, 5, .inr (.inr (.inr (.inr g)))) ∧ ∀ i, i < 5 → g i = some (ad i)) ∧ (∀ i, i < 5 → zm_g h (ad i) = zf_c (v i)) ∧ (∀ i, i < 5 → r + 2 ≤ ad i ∧ ad i < r + 7) ∧ ∀ i j, i < 5 → j < 5 → ad i = ad j → i = j
theorem zr_keep {h h' : zm_H} {r : Nat} {ad : Nat → Nat} {n : Nat} {v : Nat → zf_T} (hW : zr_W h r ad n v) (hk : ∀ b, r ≤ b → b < r + 7 → zm_g h' b = zm_g h b) : zr_W h' r ad n v := by
  obtain ⟨h1, h2, ⟨g, h3, h4⟩, h5, h6, h7⟩ := hW
  refine ⟨h1, by rw [hk r (by omega) (by omega)]; exact h2, ⟨g, by rw [hk (r + 1) (by omega) (by omega)]; exact h3, h4⟩, fun i hi => ?_, h6, h7⟩
  have := h6 i hi
  rw [hk (ad i) (by omega) (by omega)]
  exact h5 i hi
theorem zr_keepF {h h' : zm_H} {r : Nat} {ad : Nat → Nat} {n : Nat} {v : Nat → zf_T} {lo hi : Nat} (hW : zr_W h r ad n v) (hF : zm_Fr h h' lo hi) (hd : r + 7 ≤ lo ∨ hi ≤ r) : zr_W h' r ad n v := zr_keep hW fun b h1 h2 => hF.2.2 b (by omega)
theorem zr_set {h : zm_H} {r : Nat} {ad : Nat → Nat} {n : Nat} {v : Nat → zf_T} (hW : zr_W h r ad n v) {i : Nat} (hi : i < 5) (f : zf_T) : zr_W (zm_s h (ad i) (zf_c f)) r ad n (fun j => if j = i then f else v j) := by
  obtain ⟨h1, h2, ⟨g, h3, h4⟩, h5, h6, h7⟩ := hW
  have := h6 i hi
  refine ⟨h1, by rw [zg_sn (by omega)]; exact h2, ⟨g, by rw [zg_sn (by omega)]; exact h3, h4⟩, fun j hj => ?_, h6, h7⟩
  show zm_g _ _ = zf_c (if j = i then f else v j)
  by_cases e : j = i
  · subst e
    rw [zg_ss, if_pos rfl]
  · rw [zg_sn (fun z => e (h7 j i hj hi z)), if_neg e]
    exact h5 j hj
def zr_from (v : Nat → zf_T) : Nat → Nat → Int32
  | 0, _ => -4
  | k + 1, i => if (v i).2.1 ≤ 0 then zr_from v k (i + 1) else nI i
def zr_reign (n : Nat) (v : Nat → zf_T) : Int32 := zr_from v n 0
def zr_bitf (v : Nat → zf_T) : Nat → Nat → Int32 → Int32
  | 0, _, a => a
  | k + 1, i, a => zr_bitf v k (i + 1) (if (v i).2.1 ≤ 0 then a else a ||| ((1 : Int32) <<< (nI i &&& 31)))
def zr_bits (n : Nat) (v : Nat → zf_T) : Int32 := zr_bitf v n 0 0
def zr_sumf (v : Nat → zf_T) : Nat → Nat → Int32 → Int32
  | 0, _, a => a
  | k + 1, i, a => zr_sumf v k (i + 1) (a + (v i).2.1)
def zr_sum (n : Nat) (v : Nat → zf_T) : Int32 := zr_sumf v n 0 0
def zr_pass (w d : Int32) (n : Nat) (v : Nat → zf_T) : Nat → zf_T := fun i => if i < n then zf_pass w d (v i) else v i
section ZROW
variable {h : zm_H} {r : Nat} {ad : Nat → Nat} {n : Nat} {v : Nat → zf_T}
theorem nI_le5 {a b : Nat} (ha : a ≤ 5) (hb : b ≤ 5) : (nI a ≤ nI b) = (a ≤ b) := propext (nI_leI (by omega) (by omega))
theorem qc_reign_l (hW : zr_W h r ad n v) : ∀ k i, i + k = n → zm_den 2 22 2 [.ref r, .int (nI i)] [] h = some (some (.int (zr_from v k i)), h) := by
  obtain ⟨h1, h2, ⟨g, h3, h4⟩, h5, h6, h7⟩ := hW
  intro k
  induction k with
  | zero =>
    intro i hi
    rw [zb22_2]
    simp only [h2, zgi_2_1, nI_le5 h1 (show i ≤ 5 by omega), show n ≤ i by omega, if_true, zm_nx, zb22_30, zr_from]
  | succ k ih =>
    intro i hi
    rw [zb22_2]
    simp only [h2, zgi_2_1, nI_le5 h1 (show i ≤ 5 by omega), show ¬ n ≤ i by omega, if_false, zm_nx, zb22_10, zgr_2_0, h3, zq_ql_o (show i < 5 by omega) (by decide) (h4 i (by omega)), h5 i (by omega)]
    have hs := qc_stands (h5 i (by omega))
    simp only [zf_c, zq_rc_o, hs, zq_bi_o, zr_from]
    by_cases hz : (v i).2.1 ≤ 0
    · simp only [hz, if_true, zb22_24, zm_nx, nI_1]
      exact ih (i + 1) (by omega)
    · simp only [hz, if_false, show ¬ (1 : Int32) = 0 by decide, zb22_22]
theorem qc_reign (hW : zr_W h r ad n v) : zm_call 22 [.ref r] h = some (some (.int (zr_reign n v)), h) := by
  rw [zc22, zm_nx, zb22_0, zm_nx]
  exact qc_reign_l hW n 0 (by omega)
theorem qc_bits_l (hW : zr_W h r ad n v) : ∀ k i a, i + k = n → zm_den 2 24 4 [.ref r, .int a, .int (nI i)] [] h = some (some (.int (zr_bitf v k i a)), h) := by
  obtain ⟨h1, h2, ⟨g, h3, h4⟩, h5, h6, h7⟩ := hW
  intro k
  induction k with
  | zero =>
    intro i a hi
    rw [zb24_4]
    simp only [h2, zgi_2_1, nI_le5 h1 (show i ≤ 5 by omega), show n ≤ i by omega, if_true, zm_nx, zb24_36, zr_bitf]
  | succ k ih =>
    intro i a hi
    rw [zb24_4]
    simp only [h2, zgi_2_1, nI_le5 h1 (show i ≤ 5 by omega), show ¬ n ≤ i by omega, if_false, zm_nx, zb24_12, zgr_2_0, h3, zq_ql_o (show i < 5 by omega) (by decide) (h4 i (by omega)), h5 i (by omega)]
    have hs := qc_stands (h5 i (by omega))
    simp only [zf_c, zq_rc_o, hs, zq_bi_o, zr_bitf]
    by_cases hz : (v i).2.1 ≤ 0
    · simp only [hz, if_true, zb24_30, zm_nx, nI_1]
      exact ih (i + 1) _ (by omega)
    · simp only [hz, if_false, show ¬ (1 : Int32) = 0 by decide, zb24_24, zm_nx, zb24_30, nI_1]
      exact ih (i + 1) _ (by omega)
theorem qc_bits (hW : zr_W h r ad n v) : zm_call 24 [.ref r] h = some (some (.int (zr_bits n v)), h) := by
  rw [zc24, zm_nx, zb24_0, zm_nx]
  exact qc_bits_l hW n 0 0 (by omega)
theorem qc_sum_l (hW : zr_W h r ad n v) : ∀ k i a, i + k = n → zm_den 1 26 4 [.ref r, .int a, .int (nI i)] [] h = some (some (.int (zr_sumf v k i a)), h) := by
  obtain ⟨h1, h2, ⟨g, h3, h4⟩, h5, h6, h7⟩ := hW
  intro k
  induction k with
  | zero =>
    intro i a hi
    rw [zb26_4]
    simp only [h2, zgi_2_1, nI_le5 h1 (show i ≤ 5 by omega), show n ≤ i by omega, if_true, zm_nx, zb26_30, zr_sumf]
  | succ k ih =>
    intro i a hi
    rw [zb26_4]
    simp only [h2, zgi_2_1, nI_le5 h1 (show i ≤ 5 by omega), show ¬ n ≤ i by omega, if_false, zm_nx, zb26_12, zgr_2_0, h3, zq_ql_o (show i < 5 by omega) (by decide) (h4 i (by omega)), h5 i (by omega), zf_c, zgi_0_1, nI_1]
    exact ih (i + 1) _ (by omega)
theorem qc_sum (hW : zr_W h r ad n v) : zm_call 26 [.ref r] h = some (some (.int (zr_sum n v)), h) := by
  rw [zc26, zm_nx, zb26_0, zm_nx]
  exact qc_sum_l hW n 0 0 (by omega)
theorem qc_rpass_l {w d : Int32} : ∀ (k i : Nat) (h : zm_H) (v : Nat → zf_T), i + k = n → zr_W h r ad n v → ∃ h', zm_den 3 27 2 [.ref r, .int w, .int d, .int (nI i)] [] h = some (none, h') ∧ zr_W h' r ad n (fun j => if i ≤ j ∧ j < n then zf_pass w d (v j) else v j) ∧ zm_Fr h h' (r + 2) (r + 7) := by
  intro k
  induction k with
  | zero =>
    intro i h v hi hW
    obtain ⟨h1, h2, h3, h4, h5, h6⟩ := id hW
    refine ⟨h, ?_, ?_, zFr_rf _ _ _⟩
    · rw [zb27_2]
      simp only [h2, zgi_2_1, nI_le5 h1 (show i ≤ 5 by omega), show n ≤ i by omega, if_true, zm_nx, zb27_27]
    · have : (fun j => if i ≤ j ∧ j < n then zf_pass w d (v j) else v j) = v := by
        funext j
        rw [if_neg (by omega)]
      rw [this]
      exact hW
  | succ k ih =>
    intro i h v hi hW
    obtain ⟨h1, h2, ⟨g, h3, h4⟩, h5, h6, h7⟩ := id hW
    have hs := qc_pass (w := w) (d := d) (h5 i (by omega))
    obtain ⟨h', e1, e2, e3⟩ := ih (i + 1) _ _ (by omega) (zr_set hW (show i < 5 by omega) (zf_pass w d (v i)))
    have hb := h6 i (by omega)
    refine ⟨h', ?_, ?_, zFr_tr (zFr_s hb.1 hb.2) e3⟩
    · rw [zb27_2]
      simp only [h2, zgi_2_1, nI_le5 h1 (show i ≤ 5 by omega), show ¬ n ≤ i by omega, if_false, zm_nx, zb27_10, zgr_2_0, h3, zq_ql_o (show i < 5 by omega) (by decide) (h4 i (by omega)), hs]
      rw [h5 i (by omega)]
      simp only [zf_c, zq_rc_o, zq_bv_o, nI_1]
      exact e1
    · have : (fun j => if i ≤ j ∧ j < n then zf_pass w d (v j) else v j) = (fun j => if i + 1 ≤ j ∧ j < n then zf_pass w d (if j = i then zf_pass w d (v i) else v j) else (if j = i then zf_pass w d (v i) else v j)) := by
        funext j
        by_cases e : j = i
        · subst e
          rw [if_pos (by omega), if_neg (by omega), if_pos rfl]
        · by_cases e2 : i + 1 ≤ j ∧ j < n
          · rw [if_pos (by omega), if_pos e2, if_neg e]
          · rw [if_neg (by omega), if_neg e2, if_neg e]
      rw [this]
      exact e2
theorem qc_rpass {w d : Int32} (hW : zr_W h r ad n v) : ∃ h', zm_call 27 [.ref r, .int w, .int d] h = some (none, h') ∧ zr_W h' r ad n (zr_pass w d n v) ∧ zm_Fr h h' (r + 2) (r + 7) := by
  obtain ⟨h', e1, e2, e3⟩ := qc_rpass_l (w := w) (d := d) n 0 h v (by omega) hW
  refine ⟨h', ?_, ?_, e3⟩
  · rw [zc27, zm_nx, zb27_0, zm_nx]
    exact e1
  · have : zr_pass w d n v = (fun j => if 0 ≤ j ∧ j < n then zf_pass w d (v j) else v j) := by
      funext j
      unfold zr_pass
      by_cases e : j < n
      · rw [if_pos e, if_pos (by omega)]
      · rw [if_neg e, if_neg (by omega)]
    rw [this]
    exact e2
end ZROW
