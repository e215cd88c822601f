def zf_ok (f : zf_T) : Prop := ∃ k s l : Nat, k < 4 ∧ s < 100 ∧ l < 41 ∧ f = (nI k, nI s, nI l)
def zf_byM (k w : Int32) : Int32 := if ¬ k = 0 then (if ¬ k = 1 then (if ¬ k = 2 then (if w / 2 ≤ 0 then 0 else w / 2 - 1) else 2 * w) else w / 2) else w
def zf_meltM (k s w : Int32) : Int32 := if s ≤ zf_byM k w then s else zf_byM k w
def zf_tipM (k w : Int32) : Int32 := if k = 0 then w else (if ¬ k = 2 then (if ¬ k = 1 then 2 * (if 0 ≤ w then w / 2 else -((-w) / 2)) else (if 0 ≤ w then w / 2 else -((-w) / 2))) else w)
def zf_leanM (x : Int32) : Int32 := if x ≤ 20 then (if -20 ≤ x then x else -20) else 20
def zf_fallM (l s : Int32) : Int32 := if s < l then 0 else (if -l ≤ s then s else 0)
theorem zf_e1 : ∀ k, k < 4 → ∀ w, w < 10 → zf_byM (nI k) (nI w) = zf_by (nI k) (nI w) := by decide +kernel
theorem zf_e2 : ∀ k, k < 4 → ∀ d, d < 9 → zf_tipM (nI k) (nI d - 4) = zf_tip (nI k) (nI d) := by decide +kernel
theorem zf_e3 : ∀ k, k < 4 → ∀ d, d < 9 → ∀ l, l < 41 → zf_leanM ((nI l - 20) + zf_tip (nI k) (nI d)) = zf_lean (nI l) (zf_tip (nI k) (nI d)) - 20 := by decide +kernel
theorem zf_e4 : ∀ k, k < 4 → ∀ d, d < 9 → ∀ l, l < 41 → ¬ zf_lean (nI l) (zf_tip (nI k) (nI d)) < 0 ∧ zf_lean (nI l) (zf_tip (nI k) (nI d)) ≤ 40 := by decide +kernel
theorem zf_e5 : ∀ l, l < 41 → ∀ s, s < 100 → zf_fallM (nI l - 20) (nI s) = (if zf_abs (nI l - 20) ≤ nI s then nI s else 0) := by decide +kernel
theorem zf_e6 : ∀ k, k < 4 → ∀ w, w < 10 → ∀ s, s < 100 → ¬ nI s - zf_melt (nI k, nI s, 0) (nI w) < 0 ∧ nI s - zf_melt (nI k, nI s, 0) (nI w) ≤ 99 := by decide +kernel
theorem zf_ok_pass {f : zf_T} (hf : zf_ok f) {a b : Nat} (ha : a < 10) (hb : b < 9) : zf_ok (zf_pass (nI a) (nI b) f) := by
  obtain ⟨k, s, l, hk, hs, hl, rfl⟩ := hf
  unfold zf_pass
  by_cases h0 : nI s ≤ 0
  · rw [if_pos h0]
    exact ⟨k, s, l, hk, hs, hl, rfl⟩
  · rw [if_neg h0]
    obtain ⟨l', hl', el⟩ := nI_of2 (n := 40) (M := 40) (by decide) (zf_e4 k hk b hb l hl).1 (zf_e4 k hk b hb l hl).2
    obtain ⟨s', hs', es⟩ := nI_of2 (n := 99) (M := 99) (by decide) (zf_e6 k hk a ha s hs).1 (zf_e6 k hk a ha s hs).2
    have es' : nI s - zf_melt (nI k, nI s, nI l) (nI a) = nI s' := es
    show zf_ok (nI k, (if zf_abs (zf_lean (nI l) (zf_tip (nI k) (nI b)) - 20) ≤ nI s - zf_melt (nI k, nI s, nI l) (nI a) then nI s - zf_melt (nI k, nI s, nI l) (nI a) else 0), zf_lean (nI l) (zf_tip (nI k) (nI b)))
    rw [el, es']
    by_cases hc : zf_abs (nI l' - 20) ≤ nI s'
    · rw [if_pos hc]
      exact ⟨k, s', l', hk, by omega, by omega, rfl⟩
    · rw [if_neg hc]
      exact ⟨k, 0, l', hk, by omega, by omega, rfl⟩
/-- what the reference's day makes of a figure -/
theorem zf_pass_M {k s l a b : Nat} (hk : k < 4) (hs : s < 100) (hl : l < 41) (ha : a < 10) (hb : b < 9) (h0 : ¬ nI s ≤ 0) :
    zf_pass (nI a) (nI b) (nI k, nI s, nI l) = (nI k, zf_fallM (zf_leanM ((nI l - 20) + zf_tipM (nI k) (nI b - 4))) (nI s - zf_meltM (nI k) (nI s) (nI a)), zf_leanM ((nI l - 20) + zf_tipM (nI k) (nI b - 4)) + 20) := by
  obtain ⟨l', hl', el⟩ := nI_of2 (n := 40) (M := 40) (by decide) (zf_e4 k hk b hb l hl).1 (zf_e4 k hk b hb l hl).2
  obtain ⟨s', hs', es⟩ := nI_of2 (n := 99) (M := 99) (by decide) (zf_e6 k hk a ha s hs).1 (zf_e6 k hk a ha s hs).2
  have em : zf_meltM (nI k) (nI s) (nI a) = zf_melt (nI k, nI s, nI l) (nI a) := by
    unfold zf_meltM zf_melt
    rw [zf_e1 k hk a ha]
  have es' : nI s - zf_melt (nI k, nI s, nI l) (nI a) = nI s' := es
  rw [em, zf_e2 k hk b hb, zf_e3 k hk b hb l hl, es', el, zf_e5 l' (by omega) s' (by omega)]
  unfold zf_pass
  rw [if_neg h0]
  show (nI k, (if zf_abs (zf_lean (nI l) (zf_tip (nI k) (nI b)) - 20) ≤ nI s - zf_melt (nI k, nI s, nI l) (nI a) then nI s - zf_melt (nI k, nI s, nI l) (nI a) else 0), zf_lean (nI l) (zf_tip (nI k) (nI b))) = _
  rw [el, es', Int32.sub_add_cancel]
def zs_M (h : zm_H) (m s : Nat) (fs : List Value) (g : Nat → Int32) : Prop := m ≠ s ∧ zm_g h m = .inr (7, .ref s :: fs) ∧ zm_g h s = .inl (0, 186, .inl g)
def zs_P (g : Nat → Int32) (p : Nat) (P : zp_T) : Prop := g (p + 15) = nI P.1 ∧ (∀ i, i < P.1 → g (p + i) = (P.2.1 i).1 ∧ g (p + 5 + i) = (P.2.1 i).2.1 ∧ g (p + 10 + i) = (P.2.1 i).2.2 - 20) ∧ (∀ d, d < 7 → g (p + 16 + d) = P.2.2.1 d - 1 ∧ g (p + 23 + d) = P.2.2.2.1 d - 4) ∧ g (p + 30) = nI P.2.2.2.2
def zp_ok (P : zp_T) : Prop := P.1 ≤ 5 ∧ (∀ i, i < P.1 → zf_ok (P.2.1 i)) ∧ ∀ d, d < 7 → (∃ a, a < 10 ∧ P.2.2.1 d = nI a) ∧ ∃ b, b < 9 ∧ P.2.2.2.1 d = nI b
theorem zgr_70 (fs : List Value) (x : Nat) (f : Nat → zm_O) : zq_gr (.inr (7, .ref x :: fs)) 7 0 f = f x := rfl
theorem nI_ac (p i : Nat) (c : Nat) : (nI p + nI c) + nI i = nI (p + c + i) := by rw [nI_add, nI_add]
theorem nI_5 (p i : Nat) : (nI p + (5 : Int32)) + nI i = nI (p + 5 + i) := nI_ac p i 5
theorem nI_10 (p i : Nat) : (nI p + (10 : Int32)) + nI i = nI (p + 10 + i) := nI_ac p i 10
theorem nI_15 (p : Nat) : nI p + (15 : Int32) = nI (p + 15) := nI_add p 15
theorem nI_30 (p : Nat) : nI p + (30 : Int32) = nI (p + 30) := nI_add p 30
theorem nI_16 (p i : Nat) : (nI p + (16 : Int32)) + nI i = nI (p + 16 + i) := nI_ac p i 16
theorem nI_23 (p i : Nat) : (nI p + (23 : Int32)) + nI i = nI (p + 23 + i) := nI_ac p i 23
section ZPAGE
variable {h : zm_H} {m s : Nat} {fs : List Value} {g : Nat → Int32} {p : Nat} {P : zp_T}
theorem qm_melts {i : Nat} {w : Int32} (hM : zs_M h m s fs g) (hi : p + 5 + i < 186) : zm_call 138 [.ref m, .int (nI p), .int (nI i), .int w] h = some (some (.int (zf_meltM (g (p + i)) (g (p + 5 + i)) w)), h) := by
  obtain ⟨h1, h2, h3⟩ := hM
  rw [zc138]
  simp only [zm_nx, zB138, h2, zgr_70, h3, nI_add, zq_al_o (show p + i < 186 by omega) (show (186 : Nat) < 2 ^ 31 by decide), nI_5, zq_al_o hi (show (186 : Nat) < 2 ^ 31 by decide), zf_meltM, zf_byM]
  repeat' split
  all_goals first | rfl | contradiction
theorem qm_tips {i : Nat} {w : Int32} (hM : zs_M h m s fs g) (hi : p + i < 186) : zm_call 139 [.ref m, .int (nI p), .int (nI i), .int w] h = some (some (.int (zf_tipM (g (p + i)) w)), h) := by
  obtain ⟨h1, h2, h3⟩ := hM
  rw [zc139]
  simp only [zm_nx, zB139, h2, zgr_70, h3, nI_add, zq_al_o hi (show (186 : Nat) < 2 ^ 31 by decide), zf_tipM]
  repeat' split
  all_goals first | rfl | contradiction
theorem zs_Ms (hM : zs_M h m s fs g) (g' : Nat → Int32) : zs_M (zm_s h s (.inl (0, 186, .inl g'))) m s fs g' := ⟨hM.1, by rw [zg_sn hM.1]; exact hM.2.1, zg_ss⟩
theorem qm_reign_l (hM : zs_M h m s fs g) (hP : zs_P g p P) (hp : p + 31 ≤ 186) (hn : P.1 ≤ 5) : ∀ k i, i + k = P.1 → zm_den 1 143 2 [.ref m, .int (nI p), .int (nI i)] [] h = some (some (.int (zr_from P.2.1 k i)), h) := by
  obtain ⟨h1, h2, h3⟩ := hM
  intro k
  induction k with
  | zero =>
    intro i hi
    rw [zb143_2]
    simp only [h2, zgr_70, h3, nI_15, zq_al_o (show p + 15 < 186 by omega) (show (186 : Nat) < 2 ^ 31 by decide), hP.1, nI_le5 hn (show i ≤ 5 by omega), show P.1 ≤ i by omega, if_true, zm_nx, zb143_36, zr_from]
  | succ k ih =>
    intro i hi
    rw [zb143_2]
    simp only [h2, zgr_70, h3, nI_15, zq_al_o (show p + 15 < 186 by omega) (show (186 : Nat) < 2 ^ 31 by decide), hP.1, nI_le5 hn (show i ≤ 5 by omega), show ¬ P.1 ≤ i by omega, if_false, zm_nx, zb143_15, nI_5, zq_al_o (show p + 5 + i < 186 by omega) (show (186 : Nat) < 2 ^ 31 by decide), (hP.2.1 i (by omega)).2.1, zr_from]
    by_cases hz : (P.2.1 i).2.1 ≤ 0
    · simp only [hz, if_true, zb143_30, zm_nx, nI_1]
      exact ih (i + 1) (by omega)
    · simp only [hz, if_false, zb143_28]
theorem qm_reign (hM : zs_M h m s fs g) (hP : zs_P g p P) (hp : p + 31 ≤ 186) (hn : P.1 ≤ 5) : zm_call 143 [.ref m, .int (nI p)] h = some (some (.int (zp_reign P)), h) := by
  rw [zc143, zm_nx, zb143_0, zm_nx]
  exact qm_reign_l hM hP hp hn P.1 0 (by omega)
theorem qm_bits_l (hM : zs_M h m s fs g) (hP : zs_P g p P) (hp : p + 31 ≤ 186) (hn : P.1 ≤ 5) : ∀ k i a, i + k = P.1 → zm_den 1 142 4 [.ref m, .int (nI p), .int a, .int (nI i)] [] h = some (some (.int (zr_bitf P.2.1 k i a)), h) := by
  obtain ⟨h1, h2, h3⟩ := hM
  intro k
  induction k with
  | zero =>
    intro i a hi
    rw [zb142_4]
    simp only [h2, zgr_70, h3, nI_15, zq_al_o (show p + 15 < 186 by omega) (show (186 : Nat) < 2 ^ 31 by decide), hP.1, nI_le5 hn (show i ≤ 5 by omega), show P.1 ≤ i by omega, if_true, zm_nx, zb142_46, zr_bitf]
  | succ k ih =>
    intro i a hi
    rw [zb142_4]
    simp only [h2, zgr_70, h3, nI_15, zq_al_o (show p + 15 < 186 by omega) (show (186 : Nat) < 2 ^ 31 by decide), hP.1, nI_le5 hn (show i ≤ 5 by omega), show ¬ P.1 ≤ i by omega, if_false, zm_nx, zb142_17, nI_5, zq_al_o (show p + 5 + i < 186 by omega) (show (186 : Nat) < 2 ^ 31 by decide), (hP.2.1 i (by omega)).2.1, zr_bitf]
    by_cases hz : (P.2.1 i).2.1 ≤ 0
    · simp only [hz, if_true, zb142_37, zm_nx, zb142_38, nI_1, Int32.or_zero]
      exact ih (i + 1) _ (by omega)
    · simp only [hz, if_false, zb142_31, zm_nx, zb142_38, nI_1]
      exact ih (i + 1) _ (by omega)
theorem qm_bits (hM : zs_M h m s fs g) (hP : zs_P g p P) (hp : p + 31 ≤ 186) (hn : P.1 ≤ 5) : zm_call 142 [.ref m, .int (nI p)] h = some (some (.int (zr_bits P.1 P.2.1)), h) := by
  rw [zc142, zm_nx, zb142_0, zm_nx]
  exact qm_bits_l hM hP hp hn P.1 0 0 (by omega)
theorem qm_sum_l (hM : zs_M h m s fs g) (hP : zs_P g p P) (hp : p + 31 ≤ 186) (hn : P.1 ≤ 5) : ∀ k i a, i + k = P.1 → zm_den 1 145 4 [.ref m, .int (nI p), .int a, .int (nI i)] [] h = some (some (.int (zr_sumf P.2.1 k i a)), h) := by
  obtain ⟨h1, h2, h3⟩ := hM
  intro k
  induction k with
  | zero =>
    intro i a hi
    rw [zb145_4]
    simp only [h2, zgr_70, h3, nI_15, zq_al_o (show p + 15 < 186 by omega) (show (186 : Nat) < 2 ^ 31 by decide), hP.1, nI_le5 hn (show i ≤ 5 by omega), show P.1 ≤ i by omega, if_true, zm_nx, zb145_36, zr_sumf]
  | succ k ih =>
    intro i a hi
    rw [zb145_4]
    simp only [h2, zgr_70, h3, nI_15, zq_al_o (show p + 15 < 186 by omega) (show (186 : Nat) < 2 ^ 31 by decide), hP.1, nI_le5 hn (show i ≤ 5 by omega), show ¬ P.1 ≤ i by omega, if_false, zm_nx, zb145_17, nI_5, zq_al_o (show p + 5 + i < 186 by omega) (show (186 : Nat) < 2 ^ 31 by decide), (hP.2.1 i (by omega)).2.1, zr_sumf, nI_1]
    exact ih (i + 1) _ (by omega)
theorem qm_sum (hM : zs_M h m s fs g) (hP : zs_P g p P) (hp : p + 31 ≤ 186) (hn : P.1 ≤ 5) : zm_call 145 [.ref m, .int (nI p)] h = some (some (.int (zr_sum P.1 P.2.1)), h) := by
  rw [zc145, zm_nx, zb145_0, zm_nx]
  exact qm_sum_l hM hP hp hn P.1 0 0 (by omega)
theorem qm_warm (hM : zs_M h m s fs g) (hP : zs_P g p P) (hp : p + 31 ≤ 186) (hd : P.2.2.2.2 < 100000) : zm_call 136 [.ref m, .int (nI p)] h = some (some (.int (P.2.2.1 (P.2.2.2.2 % 7))), h) := by
  obtain ⟨h1, h2, h3⟩ := hM
  have hlt : P.2.2.2.2 % 7 < 7 := Nat.mod_lt _ (by decide)
  rw [zc136, zm_nx, zb136_0]
  simp only [h2, zgr_70, h3, nI_30, zq_al_o (show p + 30 < 186 by omega) (show (186 : Nat) < 2 ^ 31 by decide), hP.2.2.2, zm_rem7 _ (show P.2.2.2.2 < 2 ^ 31 by omega), nI_16, zq_al_o (show p + 16 + P.2.2.2.2 % 7 < 186 by omega) (show (186 : Nat) < 2 ^ 31 by decide), (hP.2.2.1 _ hlt).1, Int32.sub_add_cancel]
theorem qm_wind (hM : zs_M h m s fs g) (hP : zs_P g p P) (hp : p + 31 ≤ 186) (hd : P.2.2.2.2 < 100000) : zm_call 137 [.ref m, .int (nI p)] h = some (some (.int (P.2.2.2.1 (P.2.2.2.2 % 7) - 4)), h) := by
  obtain ⟨h1, h2, h3⟩ := hM
  have hlt : P.2.2.2.2 % 7 < 7 := Nat.mod_lt _ (by decide)
  rw [zc137, zm_nx, zb137_0]
  simp only [h2, zgr_70, h3, nI_30, zq_al_o (show p + 30 < 186 by omega) (show (186 : Nat) < 2 ^ 31 by decide), hP.2.2.2, zm_rem7 _ (show P.2.2.2.2 < 2 ^ 31 by omega), nI_23, zq_al_o (show p + 23 + P.2.2.2.2 % 7 < 186 by omega) (show (186 : Nat) < 2 ^ 31 by decide), (hP.2.2.1 _ hlt).2]
end ZPAGE
