def zp_eqv (P Q : zp_T) : Prop := P.1 = Q.1 ∧ (∀ i, i < P.1 → P.2.1 i = Q.2.1 i) ∧ (∀ d, d < 7 → P.2.2.1 d = Q.2.2.1 d ∧ P.2.2.2.1 d = Q.2.2.2.1 d) ∧ P.2.2.2.2 = Q.2.2.2.2
theorem zv_rf (P : zp_T) : zp_eqv P P := ⟨rfl, fun _ _ => rfl, fun _ _ => ⟨rfl, rfl⟩, rfl⟩
theorem zv_sy {P Q : zp_T} (h : zp_eqv P Q) : zp_eqv Q P := ⟨h.1.symm, fun i hi => (h.2.1 i (by rw [h.1]; exact hi)).symm, fun d hd => ⟨(h.2.2.1 d hd).1.symm, (h.2.2.1 d hd).2.symm⟩, h.2.2.2.symm⟩
theorem zv_tr {P Q R : zp_T} (h : zp_eqv P Q) (k : zp_eqv Q R) : zp_eqv P R := ⟨h.1.trans k.1, fun i hi => (h.2.1 i hi).trans (k.2.1 i (by rw [← h.1]; exact hi)), fun d hd => ⟨(h.2.2.1 d hd).1.trans (k.2.2.1 d hd).1, (h.2.2.1 d hd).2.trans (k.2.2.1 d hd).2⟩, h.2.2.2.trans k.2.2.2⟩
theorem zv_from {v w : Nat → zf_T} : ∀ k i, (∀ j, j < i + k → v j = w j) → zr_from v k i = zr_from w k i
  | 0, _, _ => rfl
  | k + 1, i, h => by
    unfold zr_from
    rw [h i (by omega), zv_from k (i + 1) (fun j hj => h j (by omega))]
theorem zv_bitf {v w : Nat → zf_T} : ∀ k i a, (∀ j, j < i + k → v j = w j) → zr_bitf v k i a = zr_bitf w k i a
  | 0, _, _, _ => rfl
  | k + 1, i, a, h => by
    unfold zr_bitf
    rw [h i (by omega), zv_bitf k (i + 1) _ (fun j hj => h j (by omega))]
theorem zv_sumf {v w : Nat → zf_T} : ∀ k i a, (∀ j, j < i + k → v j = w j) → zr_sumf v k i a = zr_sumf w k i a
  | 0, _, _, _ => rfl
  | k + 1, i, a, h => by
    unfold zr_sumf
    rw [h i (by omega), zv_sumf k (i + 1) _ (fun j hj => h j (by omega))]
section ZEQV
variable {P Q : zp_T}
theorem zv_reign (h : zp_eqv P Q) : zp_reign P = zp_reign Q := by
  unfold zp_reign zr_reign
  rw [← h.1]
  exact zv_from _ _ fun j hj => h.2.1 j (by omega)
theorem zv_bits (h : zp_eqv P Q) : zr_bits P.1 P.2.1 = zr_bits Q.1 Q.2.1 := by
  unfold zr_bits
  rw [← h.1]
  exact zv_bitf _ _ _ fun j hj => h.2.1 j (by omega)
theorem zv_sum (h : zp_eqv P Q) : zr_sum P.1 P.2.1 = zr_sum Q.1 Q.2.1 := by
  unfold zr_sum
  rw [← h.1]
  exact zv_sumf _ _ _ fun j hj => h.2.1 j (by omega)
theorem zv_dec (h : zp_eqv P Q) (hn : P.1 ≤ 5) : zp_dec P = zp_dec Q := by
  have hr : zr_reign P.1 P.2.1 = zr_reign Q.1 Q.2.1 := zv_reign h
  unfold zp_dec zr_dec
  rw [← hr]
  rcases zr_reign_spec P.1 P.2.1 with e | ⟨j, hj, e⟩
  · rw [e]
    rfl
  · rw [e, nI_clamp (by omega), h.2.1 j hj]
theorem zv_pass (h : zp_eqv P Q) : zp_eqv (zp_pass P) (zp_pass Q) := by
  have hd : P.2.2.2.2 % 7 < 7 := Nat.mod_lt _ (by decide)
  refine ⟨h.1, fun i hi => ?_, h.2.2.1, ?_⟩
  · have hi' : i < P.1 := hi
    show (if i < P.1 then zf_pass (P.2.2.1 (P.2.2.2.2 % 7)) (P.2.2.2.1 (P.2.2.2.2 % 7)) (P.2.1 i) else P.2.1 i) = (if i < Q.1 then zf_pass (Q.2.2.1 (Q.2.2.2.2 % 7)) (Q.2.2.2.1 (Q.2.2.2.2 % 7)) (Q.2.1 i) else Q.2.1 i)
    rw [← h.1, ← h.2.2.2, if_pos hi', if_pos hi', h.2.1 i hi', (h.2.2.1 _ hd).1, (h.2.2.1 _ hd).2]
  · show P.2.2.2.2 + 1 = Q.2.2.2.2 + 1
    rw [h.2.2.2]
theorem zv_run : ∀ (k : Nat) {P Q : zp_T}, zp_eqv P Q → zp_eqv (zp_run k P) (zp_run k Q)
  | 0, _, _, h => h
  | k + 1, _, _, h => zv_run k (zv_pass h)
theorem zv_ruled {i : Int32} : ∀ (k : Nat) {P Q : zp_T} (a : Int32), zp_eqv P Q → zp_ruled i k P a = zp_ruled i k Q a
  | 0, _, _, _, _ => rfl
  | k + 1, _, _, a, h => by
    unfold zp_ruled
    rw [zv_reign h, zv_ruled k _ (zv_pass h)]
theorem zv_rulers : ∀ (k : Nat) {P Q : zp_T} (a : Int32), zp_eqv P Q → zp_rulers k P a = zp_rulers k Q a
  | 0, _, _, _, _ => rfl
  | k + 1, _, _, a, h => by
    unfold zp_rulers
    rw [zv_reign h, zv_rulers k _ (zv_pass h)]
theorem zv_chg : ∀ (k : Nat) {P Q : zp_T} (a : Int32), zp_eqv P Q → zp_chg k P a = zp_chg k Q a
  | 0, _, _, _, _ => rfl
  | k + 1, _, _, a, h => by
    unfold zp_chg
    rw [zv_reign h, zv_reign (zv_pass h), zv_chg k _ (zv_pass h)]
theorem zv_ok (h : zp_eqv P Q) (hk : zp_ok P) : zp_ok Q := by
  refine ⟨by rw [← h.1]; exact hk.1, fun i hi => ?_, fun d hd => ?_⟩
  · rw [← h.2.1 i (by rw [h.1]; exact hi)]
    exact hk.2.1 i (by rw [h.1]; exact hi)
  · rw [← (h.2.2.1 d hd).1, ← (h.2.2.1 d hd).2]
    exact hk.2.2 d hd
theorem zv_P {g : Nat → Int32} {p : Nat} (h : zp_eqv P Q) (hP : zs_P g p P) : zs_P g p Q := by
  refine ⟨by rw [← h.1]; exact hP.1, fun i hi => ?_, fun d hd => ?_, by rw [← h.2.2.2]; exact hP.2.2.2⟩
  · rw [← h.2.1 i (by rw [h.1]; exact hi)]
    exact hP.2.1 i (by rw [h.1]; exact hi)
  · rw [← (h.2.2.1 d hd).1, ← (h.2.2.1 d hd).2]
    exact hP.2.2.1 d hd
end ZEQV
/-- a province stands at p, up to what lies beyond its number -/
def zp_V (h : zm_H) (p : Nat) (P : zp_T) : Prop := ∃ ad Q, zp_W h p ad Q ∧ zp_eqv Q P
section ZPV
variable {h : zm_H} {p : Nat} {P : zp_T}
theorem zV_keep {h' : zm_H} (hV : zp_V h p P) (hk : ∀ b, p ≤ b → b < p + 10 → zm_g h' b = zm_g h b) : zp_V h' p P := by
  obtain ⟨ad, Q, h1, h2⟩ := hV
  exact ⟨ad, Q, zp_keep h1 hk, h2⟩
theorem zV_keepF {h' : zm_H} {lo hi : Nat} (hV : zp_V h p P) (hF : zm_Fr h h' lo hi) (hd : p + 10 ≤ lo ∨ hi ≤ p) : zp_V h' p P := zV_keep hV fun b h1 h2 => hF.2.2 b (by omega)
theorem qv_wday (hV : zp_V h p P) : zm_call 31 [.ref p] h = some (some (.int (nI (P.2.2.2.2 % 7))), h) := by
  obtain ⟨ad, Q, h1, h2⟩ := hV
  rw [qc_wday h1, h2.2.2.2]
theorem qv_reign (hV : zp_V h p P) : zm_call 22 [.ref (p + 1)] h = some (some (.int (zp_reign P)), h) := by
  obtain ⟨ad, Q, h1, h2⟩ := hV
  rw [qc_reign h1.2.2.1, ← zv_reign h2]
  rfl
theorem qv_dec (hV : zp_V h p P) : zm_call 23 [.ref (p + 1)] h = some (some (.int (zp_dec P)), h) := by
  obtain ⟨ad, Q, h1, h2⟩ := hV
  rw [qc_dec h1.2.2.1, ← zv_dec h2 h1.2.2.1.1]
  rfl
theorem qv_bits (hV : zp_V h p P) : zm_call 24 [.ref (p + 1)] h = some (some (.int (zr_bits P.1 P.2.1)), h) := by
  obtain ⟨ad, Q, h1, h2⟩ := hV
  rw [qc_bits h1.2.2.1, ← zv_bits h2]
theorem qv_num (hV : zp_V h p P) : zm_call 25 [.ref (p + 1)] h = some (some (.int (zc_cnt (zr_bits P.1 P.2.1))), h) := by
  obtain ⟨ad, Q, h1, h2⟩ := hV
  rw [qc_num h1.2.2.1, ← zv_bits h2]
theorem qv_sum (hV : zp_V h p P) : zm_call 26 [.ref (p + 1)] h = some (some (.int (zr_sum P.1 P.2.1)), h) := by
  obtain ⟨ad, Q, h1, h2⟩ := hV
  rw [qc_sum h1.2.2.1, ← zv_sum h2]
theorem qv_pass (hV : zp_V h p P) (hd : P.2.2.2.2 + 1 < 100000) : ∃ h', zm_call 32 [.ref p] h = some (none, h') ∧ zp_V h' p (zp_pass P) ∧ zm_Fr h h' p (p + 10) := by
  obtain ⟨ad, Q, h1, h2⟩ := hV
  obtain ⟨h', e1, e2, e3⟩ := qc_ppass h1 (by rw [h2.2.2.2]; exact hd)
  exact ⟨h', e1, ⟨ad, _, e2, zv_pass h2⟩, e3⟩
theorem qv_run {N : Nat} (hV : zp_V h p P) (hN : P.2.2.2.2 + N < 100000) : ∃ h', zm_call 33 [.ref p, .int (nI N)] h = some (none, h') ∧ zp_V h' p (zp_run N P) ∧ zm_Fr h h' p (p + 10) := by
  obtain ⟨ad, Q, h1, h2⟩ := hV
  obtain ⟨h', e1, e2, e3⟩ := qc_prun (N := N) (by rw [h2.2.2.2]; exact hN) h1
  exact ⟨h', e1, ⟨ad, _, e2, zv_run N h2⟩, e3⟩
theorem qv_ruled {i : Int32} {N : Nat} (hV : zp_V h p P) (hN : P.2.2.2.2 + N < 100000) : ∃ h', zm_call 35 [.ref p, .int i, .int (nI N)] h = some (some (.int (zp_ruled i N P 0)), h') ∧ zp_V h' p (zp_run N P) ∧ zm_Fr h h' p (p + 10) := by
  obtain ⟨ad, Q, h1, h2⟩ := hV
  obtain ⟨h', e1, e2, e3⟩ := qc_ruled (i0 := i) (N := N) (by rw [h2.2.2.2]; exact hN) h1
  exact ⟨h', by rw [e1, zv_ruled N 0 h2], ⟨ad, _, e2, zv_run N h2⟩, e3⟩
theorem qv_unruled {N : Nat} (hV : zp_V h p P) (hN : P.2.2.2.2 + N < 100000) : ∃ h', zm_call 34 [.ref p, .int (nI N)] h = some (some (.int (zp_ruled (-4) N P 0)), h') ∧ zp_V h' p (zp_run N P) ∧ zm_Fr h h' p (p + 10) := by
  obtain ⟨ad, Q, h1, h2⟩ := hV
  obtain ⟨h', e1, e2, e3⟩ := qc_unruled (N := N) (by rw [h2.2.2.2]; exact hN) h1
  exact ⟨h', by rw [e1, zv_ruled N 0 h2], ⟨ad, _, e2, zv_run N h2⟩, e3⟩
theorem qv_rulers {N : Nat} (hV : zp_V h p P) (hN : P.2.2.2.2 + N < 100000) : ∃ h', zm_call 36 [.ref p, .int (nI N)] h = some (some (.int (zp_rulers N P 0)), h') ∧ zp_V h' p (zp_run N P) ∧ zm_Fr h h' p (p + 10) := by
  obtain ⟨ad, Q, h1, h2⟩ := hV
  obtain ⟨h', e1, e2, e3⟩ := qc_rulers (N := N) (by rw [h2.2.2.2]; exact hN) h1
  exact ⟨h', by rw [e1, zv_rulers N 0 h2], ⟨ad, _, e2, zv_run N h2⟩, e3⟩
theorem qv_chg {N : Nat} (hV : zp_V h p P) (hN : P.2.2.2.2 + N < 100000) : ∃ h', zm_call 37 [.ref p, .int (nI N)] h = some (some (.int (zp_chg N P 0)), h') ∧ zp_V h' p (zp_run N P) ∧ zm_Fr h h' p (p + 10) := by
  obtain ⟨ad, Q, h1, h2⟩ := hV
  obtain ⟨h', e1, e2, e3⟩ := qc_chg (N := N) (by rw [h2.2.2.2]; exact hN) h1
  exact ⟨h', by rw [e1, zv_chg N 0 h2], ⟨ad, _, e2, zv_run N h2⟩, e3⟩
theorem qv_copy {q : Nat} {R : zp_T} (hd : p + 10 ≤ q ∨ q + 10 ≤ p) (hV : zp_V h p P) (hR : zp_V h q R) : ∃ h', zm_call 30 [.ref p, .ref q] h = some (none, h') ∧ zp_V h' p R ∧ zm_Fr h h' p (p + 10) := by
  obtain ⟨ad, Q, h1, h2⟩ := hV
  obtain ⟨ad2, Q2, h3, h4⟩ := hR
  obtain ⟨h', e1, e2, e3⟩ := qc_pcopy hd h1 h3
  refine ⟨h', e1, ⟨ad, _, e2, zv_tr (Q := Q2) ⟨rfl, fun i hi => ?_, fun _ _ => ⟨rfl, rfl⟩, rfl⟩ h4⟩, e3⟩
  exact if_pos hi
end ZPV
