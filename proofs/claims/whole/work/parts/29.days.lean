/-- the cell of the reference: its integers by their field's place -/
def zo_c (m : Nat) (A : Nat → Int32) : List Value := [.ref (m + 1), .ref (m + 2), .int (A 2), .ref (m + 3), .int (A 4), .int (A 5), .int (A 6), .int (A 7), .int (A 8), .int (A 9), .int (A 10), .int (A 11), .ref (m + 4), .ref (m + 5), .int (A 14), .int (A 15), .int (A 16), .ref (m + 6), .ref (m + 7), .int (A 19), .ref (m + 8), .ref (m + 9), .ref (m + 10), .ref (m + 11), .ref (m + 12), .int (A 25)]
section ZDAYS
variable {h : zm_H} {m : Nat} {A : Nat → Int32} {g : Nat → Int32} {p : Nat} {P : zp_T}
theorem zoi14 {f : Int32 → zm_O} : zq_gi (.inr (7, zo_c m A)) 7 14 f = f (A 14) := rfl
theorem zoi15 {f : Int32 → zm_O} : zq_gi (.inr (7, zo_c m A)) 7 15 f = f (A 15) := rfl
theorem zoi16 {f : Int32 → zm_O} : zq_gi (.inr (7, zo_c m A)) 7 16 f = f (A 16) := rfl
theorem zop14 {x : Int32} {f : va_E → zm_O} : zq_pi (.inr (7, zo_c m A)) 7 14 x f = f (.inr (7, zo_c m (upd A 14 x))) := rfl
theorem zop15 {x : Int32} {f : va_E → zm_O} : zq_pi (.inr (7, zo_c m A)) 7 15 x f = f (.inr (7, zo_c m (upd A 15 x))) := rfl
theorem zop16 {x : Int32} {f : va_E → zm_O} : zq_pi (.inr (7, zo_c m A)) 7 16 x f = f (.inr (7, zo_c m (upd A 16 x))) := rfl
theorem zor0 {f : Nat → zm_O} : zq_gr (.inr (7, zo_c m A)) 7 0 f = f (m + 1) := rfl
theorem zor17 {f : Nat → zm_O} : zq_gr (.inr (7, zo_c m A)) 7 17 f = f (m + 6) := rfl
def zo_M (h : zm_H) (m : Nat) (A g : Nat → Int32) : Prop := zm_g h m = .inr (7, zo_c m A) ∧ zm_g h (m + 1) = .inl (0, 186, .inl g)
theorem zo_Ms (hM : zo_M h m A g) : zs_M h m (m + 1) (zo_c m A).tail g := ⟨by omega, hM.1, hM.2⟩
theorem zs_Mo {fs : List Value} (hM : zs_M h m (m + 1) fs g) (e : fs = (zo_c m A).tail) : zo_M h m A g := ⟨by rw [hM.2.1, e]; rfl, hM.2.2⟩
theorem qm_copies_l {f t : Nat} (hf : f + 31 ≤ 186) (ht : t + 31 ≤ 186) (hd : f + 31 ≤ t ∨ t + 31 ≤ f) : ∀ (k i : Nat) (h : zm_H) (g : Nat → Int32), i + k = 31 → zo_M h m A g → ∃ h' g', zm_den 1 160 2 [.ref m, .int (nI f), .int (nI t), .int (nI i)] [] h = some (none, h') ∧ zo_M h' m A g' ∧ (∀ j, i ≤ j → j < 31 → g' (t + j) = g (f + j)) ∧ (∀ q, (q < t + i ∨ t + 31 ≤ q) → g' q = g q) ∧ zm_Fr h h' (m + 1) (m + 2) := by
  have hc : (186 : Nat) < 2 ^ 31 := by decide
  intro k
  induction k with
  | zero =>
    intro i h g hi hM
    have : i = 31 := by omega
    subst this
    refine ⟨h, g, ?_, hM, fun j h1 h2 => absurd h1 (by omega), fun q _ => rfl, zFr_rf _ _ _⟩
    rw [zb160_2]
    simp only [show (31 : Int32) ≤ nI 31 by decide, if_true, zm_nx, zb160_30]
  | succ k ih =>
    intro i h g hi hM
    have M1 : zo_M (zm_s h (m + 1) (.inl (0, 186, .inl (upd g (t + i) (g (f + i)))))) m A (upd g (t + i) (g (f + i))) := ⟨by rw [zg_sn (by omega)]; exact hM.1, zg_ss⟩
    obtain ⟨h', g', d1, d2, d3, d4, d5⟩ := ih (i + 1) _ _ (by omega) M1
    refine ⟨h', g', ?_, d2, fun j h1 h2 => ?_, fun q hq => ?_, zFr_tr (zFr_s (Nat.le_refl _) (by omega)) d5⟩
    · rw [zb160_2]
      have : ¬ (31 : Int32) ≤ nI i := by
        show ¬ nI 31 ≤ nI i
        rw [nI_leI (by omega) (by omega)]
        omega
      simp only [this, if_false, zm_nx, zb160_8, hM.1, zor0, hM.2, nI_add, zq_al_o (show f + i < 186 by omega) hc, zq_as_o (show t + i < 186 by omega) hc, nI_1]
      exact d1
    · by_cases e : j = i
      · subst e
        rw [d4 _ (by omega), pk_us]
      · rw [d3 j (by omega) h2, pk_un (by omega)]
    · rw [d4 q (by omega), pk_un (by omega)]
theorem qm_copies {f t : Nat} (hf : f + 31 ≤ 186) (ht : t + 31 ≤ 186) (hd : f + 31 ≤ t ∨ t + 31 ≤ f) (hM : zo_M h m A g) : ∃ h' g', zm_call 160 [.ref m, .int (nI f), .int (nI t)] h = some (none, h') ∧ zo_M h' m A g' ∧ (∀ j, j < 31 → g' (t + j) = g (f + j)) ∧ (∀ q, (q < t ∨ t + 31 ≤ q) → g' q = g q) ∧ zm_Fr h h' (m + 1) (m + 2) := by
  obtain ⟨h', g', d1, d2, d3, d4, d5⟩ := qm_copies_l hf ht hd 31 0 h g (by omega) hM
  refine ⟨h', g', ?_, d2, fun j hj => d3 j (by omega) hj, fun q hq => d4 q (by omega), d5⟩
  rw [zc160, zm_nx, zb160_0, zm_nx]
  exact d1
theorem zs_Pc {g' : Nat → Int32} {t : Nat} (hP : zs_P g p P) (hn : P.1 ≤ 5) (hc : ∀ j, j < 31 → g' (t + j) = g (p + j)) : zs_P g' t P := by
  obtain ⟨h1, h2, h3, h4⟩ := hP
  refine ⟨by rw [hc 15 (by omega)]; exact h1, fun i hi => ?_, fun d hd => ?_, by rw [hc 30 (by omega)]; exact h4⟩
  · obtain ⟨a, b, c⟩ := h2 i hi
    refine ⟨by rw [hc i (by omega)]; exact a, ?_, ?_⟩
    · rw [Nat.add_assoc, hc (5 + i) (by omega), ← Nat.add_assoc]; exact b
    · rw [Nat.add_assoc, hc (10 + i) (by omega), ← Nat.add_assoc]; exact c
  · obtain ⟨a, b⟩ := h3 d hd
    refine ⟨?_, ?_⟩
    · rw [Nat.add_assoc, hc (16 + d) (by omega), ← Nat.add_assoc]; exact a
    · rw [Nat.add_assoc, hc (23 + d) (by omega), ← Nat.add_assoc]; exact b
theorem zs_Pk {g' : Nat → Int32} (hP : zs_P g p P) (hn : P.1 ≤ 5) (hc : ∀ q, p ≤ q → q < p + 31 → g' q = g q) : zs_P g' p P := zs_Pc hP hn fun j hj => hc _ (by omega) (by omega)
theorem qm_go (hM : zo_M h m A g) (hP : zs_P g p P) (hp : p + 31 ≤ 186) (hk : zp_ok P) (hd : P.2.2.2.2 < 100000) : ∃ h' g', zm_call 141 [.ref m, .int (nI p)] h = some (none, h') ∧ zo_M h' m A g' ∧ zs_P g' p (zp_pass P) ∧ zm_Fr h h' (m + 1) (m + 2) ∧ ∀ q, (q < p ∨ p + 31 ≤ q) → g' q = g q := by
  obtain ⟨h', g', d1, d2, d3, d4, d5⟩ := qm_goes (zo_Ms hM) hP hp hk hd
  exact ⟨h', g', d1, zs_Mo d2 rfl, d3, d4, d5⟩
def zo_Fr (h h' : zm_H) (m : Nat) : Prop := h'.1 = h.1 ∧ h'.2.1 = h.2.1 ∧ ∀ b, b ≠ m → b ≠ m + 1 → b ≠ m + 6 → zm_g h' b = zm_g h b
theorem zoF_tr {a b c : zm_H} (h1 : zo_Fr a b m) (h2 : zo_Fr b c m) : zo_Fr a c m := ⟨h2.1.trans h1.1, h2.2.1.trans h1.2.1, fun q e1 e2 e3 => (h2.2.2 q e1 e2 e3).trans (h1.2.2 q e1 e2 e3)⟩
theorem zoF_s0 {c : va_E} : zo_Fr h (zm_s h m c) m := ⟨rfl, rfl, fun _ e _ _ => zg_sn e⟩
theorem zoF_s6 {c : va_E} : zo_Fr h (zm_s h (m + 6) c) m := ⟨rfl, rfl, fun _ _ _ e => zg_sn e⟩
theorem zoF_1 {h' : zm_H} (hF : zm_Fr h h' (m + 1) (m + 2)) : zo_Fr h h' m := ⟨hF.1, hF.2.1, fun b _ e _ => hF.2.2 b (by omega)⟩
theorem zo_sA {c : va_E} (hM : zo_M h m A g) {A' : Nat → Int32} (hc : c = .inr (7, zo_c m A')) : zo_M (zm_s h m c) m A' g := ⟨by rw [zg_ss]; exact hc, by rw [zg_sn (by omega)]; exact hM.2⟩
theorem zo_s6 {c : va_E} (hM : zo_M h m A g) : zo_M (zm_s h (m + 6) c) m A g := ⟨by rw [zg_sn (by omega)]; exact hM.1, by rw [zg_sn (by omega)]; exact hM.2⟩
end ZDAYS
