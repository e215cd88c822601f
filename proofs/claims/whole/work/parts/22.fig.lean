abbrev zf_T : Type := Int32 × Int32 × Int32
def zf_c (f : zf_T) : va_E := .inr (0, [.int f.1, .int f.2.1, .int f.2.2])
def zf_by (k w : Int32) : Int32 := if ¬ k = 1 then (if ¬ k = 2 then (if ¬ k = 3 then w else (if 2 ≤ w then w / 2 - 1 else 0)) else 2 * w) else w / 2
def zf_melt (f : zf_T) (w : Int32) : Int32 := if f.2.1 ≤ zf_by f.1 w then f.2.1 else zf_by f.1 w
def zf_tip (k d : Int32) : Int32 := if ¬ k = 1 then (if ¬ k = 3 then d - 4 else 2 * ((d - 4) / 2)) else (d - 4) / 2
def zf_lean (l t : Int32) : Int32 := if 0 < (if l + t < 40 then l + t else 40) then (if l + t < 40 then l + t else 40) else 0
def zf_abs (x : Int32) : Int32 := if 0 ≤ x then x else 0 - x
def zf_pass (w d : Int32) (f : zf_T) : zf_T := if f.2.1 ≤ 0 then f else (f.1, (if zf_abs (zf_lean f.2.2 (zf_tip f.1 d) - 20) ≤ f.2.1 - zf_melt f w then f.2.1 - zf_melt f w else 0), zf_lean f.2.2 (zf_tip f.1 d))
section ZFIG
variable {h : zm_H} {a : Nat}
theorem qc_stands {f : zf_T} (hg : zm_g h a = zf_c f) : zm_call 13 [.ref a] h = some (some (.int (if f.2.1 ≤ 0 then 0 else 1)), h) := by
  rw [zc13]
  simp only [zm_nx, zB13, hg, zf_c, zgi_0_1]
  by_cases hs : f.2.1 ≤ 0
  · simp only [hs, if_true, zq_rz_0]
  · simp only [hs, if_false, zq_rz_1]
theorem qc_copy {f g : zf_T} {b : Nat} (hg : zm_g h a = zf_c f) (hb : zm_g h b = zf_c g) : zm_call 10 [.ref a, .ref b] h = some (none, zm_s h a (zf_c g)) := by
  rw [zc10]
  by_cases e : a = b
  · subst e
    have : f = g := by
      have := hg.symm.trans hb
      simp only [zf_c, Sum.inr.injEq, Prod.mk.injEq, List.cons.injEq, Value.int.injEq] at this
      obtain ⟨-, e1, e2, e3, -⟩ := this
      exact Prod.ext e1 (Prod.ext e2 e3)
    subst this
    simp only [zm_nx, zB10, hg, zf_c, zgi_0_0, zpi_0_0, zg_ss, zgi_0_1, zpi_0_1, zgi_0_2, zpi_0_2, zs_ss]
  · have e' : b ≠ a := fun z => e z.symm
    simp only [zm_nx, zB10, hg, hb, zf_c, zgi_0_0, zpi_0_0, zg_ss, zg_sn e', zgi_0_1, zpi_0_1, zgi_0_2, zpi_0_2, zs_ss]
def zf_get (f : zf_T) (k : Int32) : Int32 := if ¬ k = 0 then (if ¬ k = 1 then f.2.2 else f.2.1) else f.1
def zf_put (f : zf_T) (k v : Int32) : zf_T := if ¬ k = 0 then (if ¬ k = 1 then (f.1, f.2.1, v) else (f.1, v, f.2.2)) else (v, f.2.1, f.2.2)
theorem qc_tell {f : zf_T} {k : Int32} (hg : zm_g h a = zf_c f) : zm_call 11 [.ref a, .int k] h = some (some (.int (zf_get f k)), h) := by
  rw [zc11]
  simp only [zm_nx, zB11, hg, zf_c, zgi_0_0, zgi_0_1, zgi_0_2, zf_get]
  by_cases h0 : k = 0
  · simp only [h0, not_true_eq_false, if_false]
  · by_cases h1 : k = 1
    · simp only [h1, not_true_eq_false, if_false, h0, not_false_eq_true, if_true]
      rfl
    · simp only [h1, h0, not_false_eq_true, if_true]
theorem qc_put {f : zf_T} {k v : Int32} (hg : zm_g h a = zf_c f) : zm_call 12 [.ref a, .int k, .int v] h = some (none, zm_s h a (zf_c (zf_put f k v))) := by
  rw [zc12]
  simp only [zm_nx, zB12, hg, zf_c, zpi_0_0, zpi_0_1, zpi_0_2, zf_put]
  by_cases h0 : k = 0
  · simp only [h0, not_true_eq_false, if_false]
  · by_cases h1 : k = 1
    · simp only [h1, not_true_eq_false, if_false, h0, not_false_eq_true, if_true]
      rfl
    · simp only [h1, h0, not_false_eq_true, if_true]
theorem qc_halve {f : zf_T} (hg : zm_g h a = zf_c f) : zm_call 14 [.ref a] h = some (none, zm_s h a (zf_c (f.1, f.2.1 / 2, f.2.2))) := by
  rw [zc14]
  simp only [zm_nx, zB14, hg, zf_c, zgi_0_1, zpi_0_1]
theorem qc_melts {f : zf_T} {w : Int32} (hg : zm_g h a = zf_c f) : zm_call 15 [.ref a, .int w] h = some (some (.int (zf_melt f w)), h) := by
  rw [zc15]
  simp only [zm_nx, zB15, hg, zf_c, zgi_0_0, zgi_0_1, zf_melt, zf_by]
  repeat' split
  all_goals first | rfl | contradiction
theorem qc_tips {f : zf_T} {d : Int32} (hg : zm_g h a = zf_c f) : zm_call 16 [.ref a, .int d] h = some (some (.int (zf_tip f.1 d)), h) := by
  rw [zc16]
  simp only [zm_nx, zB16, hg, zf_c, zgi_0_0, zf_tip]
  repeat' split
  all_goals first | rfl | contradiction
theorem qc_pass {f : zf_T} {w d : Int32} (hg : zm_g h a = zf_c f) : zm_call 17 [.ref a, .int w, .int d] h = some (none, zm_s h a (zf_c (zf_pass w d f))) := by
  rw [zc17]
  simp only [zm_nx, zB17, hg, zf_c, zq_rc_o, qc_stands (f := f) hg, zq_bi_o]
  by_cases hs : f.2.1 ≤ 0
  · simp only [hs, if_true, not_true_eq_false, if_false, zf_pass]
    rw [zs_self (c := .inr (0, [.int f.1, .int f.2.1, .int f.2.2])) hg]
  · have h1 : ¬ (1 : Int32) = 0 := by decide
    simp only [hs, if_false, h1, not_false_eq_true, if_true, zgi_0_1, qc_melts (f := f) (w := w) hg, zq_bi_o, hg, zf_c, zpi_0_1, zg_ss, zgi_0_2, zq_rc_o]
    simp only [qc_tips (f := (f.1, f.2.1 - zf_melt f w, f.2.2)) (d := d) (h := zm_s h a (.inr (0, [.int f.1, .int (f.2.1 - zf_melt f w), .int f.2.2]))) (a := a) zg_ss, zq_bi_o, zg_ss, zpi_0_2, zgi_0_2, zgi_0_1, zs_ss, zpi_0_1, zf_pass, hs, if_false]
    show (if zf_abs (zf_lean f.2.2 (zf_tip f.1 d) - 20) ≤ f.2.1 - zf_melt f w then some (none, zm_s h a (.inr (0, [.int f.1, .int (f.2.1 - zf_melt f w), .int (zf_lean f.2.2 (zf_tip f.1 d))]))) else some (none, zm_s h a (.inr (0, [.int f.1, .int 0, .int (zf_lean f.2.2 (zf_tip f.1 d))])))) = _
    by_cases hz : zf_abs (zf_lean f.2.2 (zf_tip f.1 d) - 20) ≤ f.2.1 - zf_melt f w
    · rw [if_pos hz, if_pos hz]
    · rw [if_neg hz, if_neg hz]
end ZFIG
