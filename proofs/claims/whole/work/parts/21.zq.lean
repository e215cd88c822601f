section ZQ
variable {t m ci : Nat} {fs : List Value} {o : zm_O}
theorem zq_rc_o : zq_rc (.inr (ci, fs)) ci o = o := if_pos rfl
theorem zq_bi_o {x : Int32} {h : zm_H} {f : Int32 → zm_H → zm_O} : zq_bi (some (some (.int x), h)) f = f x h := rfl
theorem zq_bl_o {x : Int64} {h : zm_H} {f : Int64 → zm_H → zm_O} : zq_bl (some (some (.long x), h)) f = f x h := rfl
theorem zq_bv_o {h : zm_H} {f : zm_H → zm_O} : zq_bv (some (none, h)) f = f h := rfl
theorem zm_vin_n {j : Nat} (h : j < m) (hm : m < 2 ^ 31) : zm_vin (nI j) m = true := zm_vin_iff.mpr (vp_in_nI h hm)
theorem zq_al_o {g : Nat → Int32} {j : Nat} {f : Int32 → zm_O} (h : j < m) (hm : m < 2 ^ 31) : zq_al (.inl (t, m, .inl g)) t (nI j) f = f (g j) := by
  unfold zq_al
  simp only [zm_vin_n h hm, and_self, if_true, nI_clamp (Nat.lt_trans h hm)]
theorem zq_as_o {g : Nat → Int32} {j : Nat} {x : Int32} {f : va_E → zm_O} (h : j < m) (hm : m < 2 ^ 31) : zq_as (.inl (t, m, .inl g)) t (nI j) x f = f (.inl (t, m, .inl (upd g j x))) := by
  unfold zq_as
  simp only [zm_vin_n h hm, and_self, if_true, nI_clamp (Nat.lt_trans h hm)]
theorem zq_ql_o {g : Nat → Option Nat} {j b : Nat} {f : Nat → zm_O} (h : j < m) (hm : m < 2 ^ 31) (hb : g j = some b) : zq_ql (.inl (t, m, .inr (.inr (.inr (.inr g))))) t (nI j) f = f b := by
  unfold zq_ql
  simp only [zm_vin_n h hm, and_self, if_true, nI_clamp (Nat.lt_trans h hm), hb]
theorem zq_qs_o {g : Nat → Option Nat} {j b : Nat} {f : va_E → zm_O} (h : j < m) (hm : m < 2 ^ 31) : zq_qs (.inl (t, m, .inr (.inr (.inr (.inr g))))) (.inr (ci, fs)) t ci (nI j) b f = f (.inl (t, m, .inr (.inr (.inr (.inr (va_up g j (some b))))))) := by
  unfold zq_qs
  simp only [zm_vin_n h hm, and_self, if_true, nI_clamp (Nat.lt_trans h hm)]
theorem zq_ln_i {g : Nat → Int32} {f : Int32 → zm_O} (ht : ¬ t = 8) : zq_ln (.inl (t, m, .inl g)) f = f (nI m) := if_neg ht
theorem zq_ln_q {g : Nat → Option Nat} {f : Int32 → zm_O} : zq_ln (.inl (t, m, .inr (.inr (.inr (.inr g))))) f = f (nI m) := rfl
theorem zq_rz_1 {h : zm_H} : zq_rz 1 h = some (some (.int 1), h) := if_pos (Or.inr rfl)
theorem zq_rz_0 {h : zm_H} : zq_rz 0 h = some (some (.int 0), h) := if_pos (Or.inl rfl)
theorem zg_ss {h : zm_H} {a : Nat} {c : va_E} : zm_g (zm_s h a c) a = c := if_pos rfl
theorem zg_sn {h : zm_H} {a b : Nat} {c : va_E} (hn : b ≠ a) : zm_g (zm_s h a c) b = zm_g h b := if_neg hn
theorem zs_ss {h : zm_H} {a : Nat} {c d : va_E} : zm_s (zm_s h a c) a d = zm_s h a d := by
  unfold zm_s
  congr 2
  funext b
  by_cases hb : b = a
  · simp [hb]
  · simp [hb]
theorem zs_self {h : zm_H} {a : Nat} {c : va_E} (hc : zm_g h a = c) : zm_s h a c = h := by
  obtain ⟨x, y, z⟩ := h
  unfold zm_s
  congr 2
  funext b
  by_cases hb : b = a
  · subst hb
    rw [if_pos rfl]
    exact hc.symm
  · rw [if_neg hb]
end ZQ
theorem zgi_0_0 (w1 w2 : Value) (x : Int32) (f : Int32 → zm_O) : zq_gi (.inr (0, [.int x, w1, w2])) 0 0 f = f x := rfl
theorem zpi_0_0 (w0 w1 w2 : Value) (x : Int32) (f : va_E → zm_O) : zq_pi (.inr (0, [w0, w1, w2])) 0 0 x f = f (.inr (0, [.int x, w1, w2])) := rfl
theorem zgi_0_1 (w0 w2 : Value) (x : Int32) (f : Int32 → zm_O) : zq_gi (.inr (0, [w0, .int x, w2])) 0 1 f = f x := rfl
theorem zpi_0_1 (w0 w1 w2 : Value) (x : Int32) (f : va_E → zm_O) : zq_pi (.inr (0, [w0, w1, w2])) 0 1 x f = f (.inr (0, [w0, .int x, w2])) := rfl
theorem zgi_0_2 (w0 w1 : Value) (x : Int32) (f : Int32 → zm_O) : zq_gi (.inr (0, [w0, w1, .int x])) 0 2 f = f x := rfl
theorem zpi_0_2 (w0 w1 w2 : Value) (x : Int32) (f : va_E → zm_O) : zq_pi (.inr (0, [w0, w1, w2])) 0 2 x f = f (.inr (0, [w0, w1, .int x])) := rfl
theorem zgr_1_0 (w1 w2 w3 : Value) (x : Nat) (f : Nat → zm_O) : zq_gr (.inr (1, [.ref x, w1, w2, w3])) 1 0 f = f x := rfl
theorem zgr_1_1 (w0 w2 w3 : Value) (x : Nat) (f : Nat → zm_O) : zq_gr (.inr (1, [w0, .ref x, w2, w3])) 1 1 f = f x := rfl
theorem zgr_1_2 (w0 w1 w3 : Value) (x : Nat) (f : Nat → zm_O) : zq_gr (.inr (1, [w0, w1, .ref x, w3])) 1 2 f = f x := rfl
theorem zgi_1_3 (w0 w1 w2 : Value) (x : Int32) (f : Int32 → zm_O) : zq_gi (.inr (1, [w0, w1, w2, .int x])) 1 3 f = f x := rfl
theorem zpi_1_3 (w0 w1 w2 w3 : Value) (x : Int32) (f : va_E → zm_O) : zq_pi (.inr (1, [w0, w1, w2, w3])) 1 3 x f = f (.inr (1, [w0, w1, w2, .int x])) := rfl
theorem zgr_2_0 (w1 : Value) (x : Nat) (f : Nat → zm_O) : zq_gr (.inr (2, [.ref x, w1])) 2 0 f = f x := rfl
theorem zgi_2_1 (w0 : Value) (x : Int32) (f : Int32 → zm_O) : zq_gi (.inr (2, [w0, .int x])) 2 1 f = f x := rfl
theorem zpi_2_1 (w0 w1 : Value) (x : Int32) (f : va_E → zm_O) : zq_pi (.inr (2, [w0, w1])) 2 1 x f = f (.inr (2, [w0, .int x])) := rfl
theorem zgr_3_0 (w1 w2 : Value) (x : Nat) (f : Nat → zm_O) : zq_gr (.inr (3, [.ref x, w1, w2])) 3 0 f = f x := rfl
theorem zgi_3_1 (w0 w2 : Value) (x : Int32) (f : Int32 → zm_O) : zq_gi (.inr (3, [w0, .int x, w2])) 3 1 f = f x := rfl
theorem zpi_3_1 (w0 w1 w2 : Value) (x : Int32) (f : va_E → zm_O) : zq_pi (.inr (3, [w0, w1, w2])) 3 1 x f = f (.inr (3, [w0, .int x, w2])) := rfl
theorem zgi_3_2 (w0 w1 : Value) (x : Int32) (f : Int32 → zm_O) : zq_gi (.inr (3, [w0, w1, .int x])) 3 2 f = f x := rfl
theorem zpi_3_2 (w0 w1 w2 : Value) (x : Int32) (f : va_E → zm_O) : zq_pi (.inr (3, [w0, w1, w2])) 3 2 x f = f (.inr (3, [w0, w1, .int x])) := rfl
theorem zgr_4_0 (w1 w2 w3 w4 w5 : Value) (x : Nat) (f : Nat → zm_O) : zq_gr (.inr (4, [.ref x, w1, w2, w3, w4, w5])) 4 0 f = f x := rfl
theorem zgi_4_1 (w0 w2 w3 w4 w5 : Value) (x : Int32) (f : Int32 → zm_O) : zq_gi (.inr (4, [w0, .int x, w2, w3, w4, w5])) 4 1 f = f x := rfl
theorem zpi_4_1 (w0 w1 w2 w3 w4 w5 : Value) (x : Int32) (f : va_E → zm_O) : zq_pi (.inr (4, [w0, w1, w2, w3, w4, w5])) 4 1 x f = f (.inr (4, [w0, .int x, w2, w3, w4, w5])) := rfl
theorem zgi_4_2 (w0 w1 w3 w4 w5 : Value) (x : Int32) (f : Int32 → zm_O) : zq_gi (.inr (4, [w0, w1, .int x, w3, w4, w5])) 4 2 f = f x := rfl
theorem zpi_4_2 (w0 w1 w2 w3 w4 w5 : Value) (x : Int32) (f : va_E → zm_O) : zq_pi (.inr (4, [w0, w1, w2, w3, w4, w5])) 4 2 x f = f (.inr (4, [w0, w1, .int x, w3, w4, w5])) := rfl
theorem zgi_4_3 (w0 w1 w2 w4 w5 : Value) (x : Int32) (f : Int32 → zm_O) : zq_gi (.inr (4, [w0, w1, w2, .int x, w4, w5])) 4 3 f = f x := rfl
theorem zpi_4_3 (w0 w1 w2 w3 w4 w5 : Value) (x : Int32) (f : va_E → zm_O) : zq_pi (.inr (4, [w0, w1, w2, w3, w4, w5])) 4 3 x f = f (.inr (4, [w0, w1, w2, .int x, w4, w5])) := rfl
theorem zgi_4_4 (w0 w1 w2 w3 w5 : Value) (x : Int32) (f : Int32 → zm_O) : zq_gi (.inr (4, [w0, w1, w2, w3, .int x, w5])) 4 4 f = f x := rfl
theorem zpi_4_4 (w0 w1 w2 w3 w4 w5 : Value) (x : Int32) (f : va_E → zm_O) : zq_pi (.inr (4, [w0, w1, w2, w3, w4, w5])) 4 4 x f = f (.inr (4, [w0, w1, w2, w3, .int x, w5])) := rfl
theorem zgi_4_5 (w0 w1 w2 w3 w4 : Value) (x : Int32) (f : Int32 → zm_O) : zq_gi (.inr (4, [w0, w1, w2, w3, w4, .int x])) 4 5 f = f x := rfl
theorem zpi_4_5 (w0 w1 w2 w3 w4 w5 : Value) (x : Int32) (f : va_E → zm_O) : zq_pi (.inr (4, [w0, w1, w2, w3, w4, w5])) 4 5 x f = f (.inr (4, [w0, w1, w2, w3, w4, .int x])) := rfl
theorem zgr_5_0 (w1 w2 w3 w4 w5 : Value) (x : Nat) (f : Nat → zm_O) : zq_gr (.inr (5, [.ref x, w1, w2, w3, w4, w5])) 5 0 f = f x := rfl
theorem zgr_5_1 (w0 w2 w3 w4 w5 : Value) (x : Nat) (f : Nat → zm_O) : zq_gr (.inr (5, [w0, .ref x, w2, w3, w4, w5])) 5 1 f = f x := rfl
theorem zgi_5_2 (w0 w1 w3 w4 w5 : Value) (x : Int32) (f : Int32 → zm_O) : zq_gi (.inr (5, [w0, w1, .int x, w3, w4, w5])) 5 2 f = f x := rfl
theorem zpi_5_2 (w0 w1 w2 w3 w4 w5 : Value) (x : Int32) (f : va_E → zm_O) : zq_pi (.inr (5, [w0, w1, w2, w3, w4, w5])) 5 2 x f = f (.inr (5, [w0, w1, .int x, w3, w4, w5])) := rfl
theorem zgi_5_3 (w0 w1 w2 w4 w5 : Value) (x : Int32) (f : Int32 → zm_O) : zq_gi (.inr (5, [w0, w1, w2, .int x, w4, w5])) 5 3 f = f x := rfl
theorem zpi_5_3 (w0 w1 w2 w3 w4 w5 : Value) (x : Int32) (f : va_E → zm_O) : zq_pi (.inr (5, [w0, w1, w2, w3, w4, w5])) 5 3 x f = f (.inr (5, [w0, w1, w2, .int x, w4, w5])) := rfl
theorem zgi_5_4 (w0 w1 w2 w3 w5 : Value) (x : Int32) (f : Int32 → zm_O) : zq_gi (.inr (5, [w0, w1, w2, w3, .int x, w5])) 5 4 f = f x := rfl
theorem zpi_5_4 (w0 w1 w2 w3 w4 w5 : Value) (x : Int32) (f : va_E → zm_O) : zq_pi (.inr (5, [w0, w1, w2, w3, w4, w5])) 5 4 x f = f (.inr (5, [w0, w1, w2, w3, .int x, w5])) := rfl
theorem zgi_5_5 (w0 w1 w2 w3 w4 : Value) (x : Int32) (f : Int32 → zm_O) : zq_gi (.inr (5, [w0, w1, w2, w3, w4, .int x])) 5 5 f = f x := rfl
theorem zpi_5_5 (w0 w1 w2 w3 w4 w5 : Value) (x : Int32) (f : va_E → zm_O) : zq_pi (.inr (5, [w0, w1, w2, w3, w4, w5])) 5 5 x f = f (.inr (5, [w0, w1, w2, w3, w4, .int x])) := rfl
theorem zgr_6_0 (w1 w2 w3 w4 w5 w6 w7 w8 w9 w10 w11 w12 w13 : Value) (x : Nat) (f : Nat → zm_O) : zq_gr (.inr (6, [.ref x, w1, w2, w3, w4, w5, w6, w7, w8, w9, w10, w11, w12, w13])) 6 0 f = f x := rfl
theorem zgr_6_1 (w0 w2 w3 w4 w5 w6 w7 w8 w9 w10 w11 w12 w13 : Value) (x : Nat) (f : Nat → zm_O) : zq_gr (.inr (6, [w0, .ref x, w2, w3, w4, w5, w6, w7, w8, w9, w10, w11, w12, w13])) 6 1 f = f x := rfl
theorem zgr_6_2 (w0 w1 w3 w4 w5 w6 w7 w8 w9 w10 w11 w12 w13 : Value) (x : Nat) (f : Nat → zm_O) : zq_gr (.inr (6, [w0, w1, .ref x, w3, w4, w5, w6, w7, w8, w9, w10, w11, w12, w13])) 6 2 f = f x := rfl
theorem zgr_6_3 (w0 w1 w2 w4 w5 w6 w7 w8 w9 w10 w11 w12 w13 : Value) (x : Nat) (f : Nat → zm_O) : zq_gr (.inr (6, [w0, w1, w2, .ref x, w4, w5, w6, w7, w8, w9, w10, w11, w12, w13])) 6 3 f = f x := rfl
theorem zgr_6_4 (w0 w1 w2 w3 w5 w6 w7 w8 w9 w10 w11 w12 w13 : Value) (x : Nat) (f : Nat → zm_O) : zq_gr (.inr (6, [w0, w1, w2, w3, .ref x, w5, w6, w7, w8, w9, w10, w11, w12, w13])) 6 4 f = f x := rfl
theorem zgr_6_5 (w0 w1 w2 w3 w4 w6 w7 w8 w9 w10 w11 w12 w13 : Value) (x : Nat) (f : Nat → zm_O) : zq_gr (.inr (6, [w0, w1, w2, w3, w4, .ref x, w6, w7, w8, w9, w10, w11, w12, w13])) 6 5 f = f x := rfl
theorem zgi_6_6 (w0 w1 w2 w3 w4 w5 w7 w8 w9 w10 w11 w12 w13 : Value) (x : Int32) (f : Int32 → zm_O) : zq_gi (.inr (6, [w0, w1, w2, w3, w4, w5, .int x, w7, w8, w9, w10, w11, w12, w13])) 6 6 f = f x := rfl
theorem zpi_6_6 (w0 w1 w2 w3 w4 w5 w6 w7 w8 w9 w10 w11 w12 w13 : Value) (x : Int32) (f : va_E → zm_O) : zq_pi (.inr (6, [w0, w1, w2, w3, w4, w5, w6, w7, w8, w9, w10, w11, w12, w13])) 6 6 x f = f (.inr (6, [w0, w1, w2, w3, w4, w5, .int x, w7, w8, w9, w10, w11, w12, w13])) := rfl
theorem zgr_6_7 (w0 w1 w2 w3 w4 w5 w6 w8 w9 w10 w11 w12 w13 : Value) (x : Nat) (f : Nat → zm_O) : zq_gr (.inr (6, [w0, w1, w2, w3, w4, w5, w6, .ref x, w8, w9, w10, w11, w12, w13])) 6 7 f = f x := rfl
theorem zgr_6_8 (w0 w1 w2 w3 w4 w5 w6 w7 w9 w10 w11 w12 w13 : Value) (x : Nat) (f : Nat → zm_O) : zq_gr (.inr (6, [w0, w1, w2, w3, w4, w5, w6, w7, .ref x, w9, w10, w11, w12, w13])) 6 8 f = f x := rfl
theorem zgi_6_9 (w0 w1 w2 w3 w4 w5 w6 w7 w8 w10 w11 w12 w13 : Value) (x : Int32) (f : Int32 → zm_O) : zq_gi (.inr (6, [w0, w1, w2, w3, w4, w5, w6, w7, w8, .int x, w10, w11, w12, w13])) 6 9 f = f x := rfl
theorem zpi_6_9 (w0 w1 w2 w3 w4 w5 w6 w7 w8 w9 w10 w11 w12 w13 : Value) (x : Int32) (f : va_E → zm_O) : zq_pi (.inr (6, [w0, w1, w2, w3, w4, w5, w6, w7, w8, w9, w10, w11, w12, w13])) 6 9 x f = f (.inr (6, [w0, w1, w2, w3, w4, w5, w6, w7, w8, .int x, w10, w11, w12, w13])) := rfl
theorem zgr_6_10 (w0 w1 w2 w3 w4 w5 w6 w7 w8 w9 w11 w12 w13 : Value) (x : Nat) (f : Nat → zm_O) : zq_gr (.inr (6, [w0, w1, w2, w3, w4, w5, w6, w7, w8, w9, .ref x, w11, w12, w13])) 6 10 f = f x := rfl
theorem zgr_6_11 (w0 w1 w2 w3 w4 w5 w6 w7 w8 w9 w10 w12 w13 : Value) (x : Nat) (f : Nat → zm_O) : zq_gr (.inr (6, [w0, w1, w2, w3, w4, w5, w6, w7, w8, w9, w10, .ref x, w12, w13])) 6 11 f = f x := rfl
theorem zgr_6_12 (w0 w1 w2 w3 w4 w5 w6 w7 w8 w9 w10 w11 w13 : Value) (x : Nat) (f : Nat → zm_O) : zq_gr (.inr (6, [w0, w1, w2, w3, w4, w5, w6, w7, w8, w9, w10, w11, .ref x, w13])) 6 12 f = f x := rfl
theorem zgi_6_13 (w0 w1 w2 w3 w4 w5 w6 w7 w8 w9 w10 w11 w12 : Value) (x : Int32) (f : Int32 → zm_O) : zq_gi (.inr (6, [w0, w1, w2, w3, w4, w5, w6, w7, w8, w9, w10, w11, w12, .int x])) 6 13 f = f x := rfl
theorem zpi_6_13 (w0 w1 w2 w3 w4 w5 w6 w7 w8 w9 w10 w11 w12 w13 : Value) (x : Int32) (f : va_E → zm_O) : zq_pi (.inr (6, [w0, w1, w2, w3, w4, w5, w6, w7, w8, w9, w10, w11, w12, w13])) 6 13 x f = f (.inr (6, [w0, w1, w2, w3, w4, w5, w6, w7, w8, w9, w10, w11, w12, .int x])) := rfl
theorem zgr_7_0 (w1 w2 w3 w4 w5 w6 w7 w8 w9 w10 w11 w12 w13 w14 w15 w16 w17 w18 w19 w20 w21 w22 w23 w24 w25 : Value) (x : Nat) (f : Nat → zm_O) : zq_gr (.inr (7, [.ref x, w1, w2, w3, w4, w5, w6, w7, w8, w9, w10, w11, w12, w13, w14, w15, w16, w17, w18, w19, w20, w21, w22, w23, w24, w25])) 7 0 f = f x := rfl
theorem zgr_7_1 (w0 w2 w3 w4 w5 w6 w7 w8 w9 w10 w11 w12 w13 w14 w15 w16 w17 w18 w19 w20 w21 w22 w23 w24 w25 : Value) (x : Nat) (f : Nat → zm_O) : zq_gr (.inr (7, [w0, .ref x, w2, w3, w4, w5, w6, w7, w8, w9, w10, w11, w12, w13, w14, w15, w16, w17, w18, w19, w20, w21, w22, w23, w24, w25])) 7 1 f = f x := rfl
theorem zgi_7_2 (w0 w1 w3 w4 w5 w6 w7 w8 w9 w10 w11 w12 w13 w14 w15 w16 w17 w18 w19 w20 w21 w22 w23 w24 w25 : Value) (x : Int32) (f : Int32 → zm_O) : zq_gi (.inr (7, [w0, w1, .int x, w3, w4, w5, w6, w7, w8, w9, w10, w11, w12, w13, w14, w15, w16, w17, w18, w19, w20, w21, w22, w23, w24, w25])) 7 2 f = f x := rfl
theorem zpi_7_2 (w0 w1 w2 w3 w4 w5 w6 w7 w8 w9 w10 w11 w12 w13 w14 w15 w16 w17 w18 w19 w20 w21 w22 w23 w24 w25 : Value) (x : Int32) (f : va_E → zm_O) : zq_pi (.inr (7, [w0, w1, w2, w3, w4, w5, w6, w7, w8, w9, w10, w11, w12, w13, w14, w15, w16, w17, w18, w19, w20, w21, w22, w23, w24, w25])) 7 2 x f = f (.inr (7, [w0, w1, .int x, w3, w4, w5, w6, w7, w8, w9, w10, w11, w12, w13, w14, w15, w16, w17, w18, w19, w20, w21, w22, w23, w24, w25])) := rfl
theorem zgr_7_3 (w0 w1 w2 w4 w5 w6 w7 w8 w9 w10 w11 w12 w13 w14 w15 w16 w17 w18 w19 w20 w21 w22 w23 w24 w25 : Value) (x : Nat) (f : Nat → zm_O) : zq_gr (.inr (7, [w0, w1, w2, .ref x, w4, w5, w6, w7, w8, w9, w10, w11, w12, w13, w14, w15, w16, w17, w18, w19, w20, w21, w22, w23, w24, w25])) 7 3 f = f x := rfl
theorem zgi_7_4 (w0 w1 w2 w3 w5 w6 w7 w8 w9 w10 w11 w12 w13 w14 w15 w16 w17 w18 w19 w20 w21 w22 w23 w24 w25 : Value) (x : Int32) (f : Int32 → zm_O) : zq_gi (.inr (7, [w0, w1, w2, w3, .int x, w5, w6, w7, w8, w9, w10, w11, w12, w13, w14, w15, w16, w17, w18, w19, w20, w21, w22, w23, w24, w25])) 7 4 f = f x := rfl
theorem zpi_7_4 (w0 w1 w2 w3 w4 w5 w6 w7 w8 w9 w10 w11 w12 w13 w14 w15 w16 w17 w18 w19 w20 w21 w22 w23 w24 w25 : Value) (x : Int32) (f : va_E → zm_O) : zq_pi (.inr (7, [w0, w1, w2, w3, w4, w5, w6, w7, w8, w9, w10, w11, w12, w13, w14, w15, w16, w17, w18, w19, w20, w21, w22, w23, w24, w25])) 7 4 x f = f (.inr (7, [w0, w1, w2, w3, .int x, w5, w6, w7, w8, w9, w10, w11, w12, w13, w14, w15, w16, w17, w18, w19, w20, w21, w22, w23, w24, w25])) := rfl
theorem zgi_7_5 (w0 w1 w2 w3 w4 w6 w7 w8 w9 w10 w11 w12 w13 w14 w15 w16 w17 w18 w19 w20 w21 w22 w23 w24 w25 : Value) (x : Int32) (f : Int32 → zm_O) : zq_gi (.inr (7, [w0, w1, w2, w3, w4, .int x, w6, w7, w8, w9, w10, w11, w12, w13, w14, w15, w16, w17, w18, w19, w20, w21, w22, w23, w24, w25])) 7 5 f = f x := rfl
theorem zpi_7_5 (w0 w1 w2 w3 w4 w5 w6 w7 w8 w9 w10 w11 w12 w13 w14 w15 w16 w17 w18 w19 w20 w21 w22 w23 w24 w25 : Value) (x : Int32) (f : va_E → zm_O) : zq_pi (.inr (7, [w0, w1, w2, w3, w4, w5, w6, w7, w8, w9, w10, w11, w12, w13, w14, w15, w16, w17, w18, w19, w20, w21, w22, w23, w24, w25])) 7 5 x f = f (.inr (7, [w0, w1, w2, w3, w4, .int x, w6, w7, w8, w9, w10, w11, w12, w13, w14, w15, w16, w17, w18, w19, w20, w21, w22, w23, w24, w25])) := rfl
theorem zgi_7_6 (w0 w1 w2 w3 w4 w5 w7 w8 w9 w10 w11 w12 w13 w14 w15 w16 w17 w18 w19 w20 w21 w22 w23 w24 w25 : Value) (x : Int32) (f : Int32 → zm_O) : zq_gi (.inr (7, [w0, w1, w2, w3, w4, w5, .int x, w7, w8, w9, w10, w11, w12, w13, w14, w15, w16, w17, w18, w19, w20, w21, w22, w23, w24, w25])) 7 6 f = f x := rfl
theorem zpi_7_6 (w0 w1 w2 w3 w4 w5 w6 w7 w8 w9 w10 w11 w12 w13 w14 w15 w16 w17 w18 w19 w20 w21 w22 w23 w24 w25 : Value) (x : Int32) (f : va_E → zm_O) : zq_pi (.inr (7, [w0, w1, w2, w3, w4, w5, w6, w7, w8, w9, w10, w11, w12, w13, w14, w15, w16, w17, w18, w19, w20, w21, w22, w23, w24, w25])) 7 6 x f = f (.inr (7, [w0, w1, w2, w3, w4, w5, .int x, w7, w8, w9, w10, w11, w12, w13, w14, w15, w16, w17, w18, w19, w20, w21, w22, w23, w24, w25])) := rfl
theorem zgi_7_7 (w0 w1 w2 w3 w4 w5 w6 w8 w9 w10 w11 w12 w13 w14 w15 w16 w17 w18 w19 w20 w21 w22 w23 w24 w25 : Value) (x : Int32) (f : Int32 → zm_O) : zq_gi (.inr (7, [w0, w1, w2, w3, w4, w5, w6, .int x, w8, w9, w10, w11, w12, w13, w14, w15, w16, w17, w18, w19, w20, w21, w22, w23, w24, w25])) 7 7 f = f x := rfl
theorem zpi_7_7 (w0 w1 w2 w3 w4 w5 w6 w7 w8 w9 w10 w11 w12 w13 w14 w15 w16 w17 w18 w19 w20 w21 w22 w23 w24 w25 : Value) (x : Int32) (f : va_E → zm_O) : zq_pi (.inr (7, [w0, w1, w2, w3, w4, w5, w6, w7, w8, w9, w10, w11, w12, w13, w14, w15, w16, w17, w18, w19, w20, w21, w22, w23, w24, w25])) 7 7 x f = f (.inr (7, [w0, w1, w2, w3, w4, w5, w6, .int x, w8, w9, w10, w11, w12, w13, w14, w15, w16, w17, w18, w19, w20, w21, w22, w23, w24, w25])) := rfl
theorem zgi_7_8 (w0 w1 w2 w3 w4 w5 w6 w7 w9 w10 w11 w12 w13 w14 w15 w16 w17 w18 w19 w20 w21 w22 w23 w24 w25 : Value) (x : Int32) (f : Int32 → zm_O) : zq_gi (.inr (7, [w0, w1, w2, w3, w4, w5, w6, w7, .int x, w9, w10, w11, w12, w13, w14, w15, w16, w17, w18, w19, w20, w21, w22, w23, w24, w25])) 7 8 f = f x := rfl
theorem zpi_7_8 (w0 w1 w2 w3 w4 w5 w6 w7 w8 w9 w10 w11 w12 w13 w14 w15 w16 w17 w18 w19 w20 w21 w22 w23 w24 w25 : Value) (x : Int32) (f : va_E → zm_O) : zq_pi (.inr (7, [w0, w1, w2, w3, w4, w5, w6, w7, w8, w9, w10, w11, w12, w13, w14, w15, w16, w17, w18, w19, w20, w21, w22, w23, w24, w25])) 7 8 x f = f (.inr (7, [w0, w1, w2, w3, w4, w5, w6, w7, .int x, w9, w10, w11, w12, w13, w14, w15, w16, w17, w18, w19, w20, w21, w22, w23, w24, w25])) := rfl
theorem zgi_7_9 (w0 w1 w2 w3 w4 w5 w6 w7 w8 w10 w11 w12 w13 w14 w15 w16 w17 w18 w19 w20 w21 w22 w23 w24 w25 : Value) (x : Int32) (f : Int32 → zm_O) : zq_gi (.inr (7, [w0, w1, w2, w3, w4, w5, w6, w7, w8, .int x, w10, w11, w12, w13, w14, w15, w16, w17, w18, w19, w20, w21, w22, w23, w24, w25])) 7 9 f = f x := rfl
theorem zpi_7_9 (w0 w1 w2 w3 w4 w5 w6 w7 w8 w9 w10 w11 w12 w13 w14 w15 w16 w17 w18 w19 w20 w21 w22 w23 w24 w25 : Value) (x : Int32) (f : va_E → zm_O) : zq_pi (.inr (7, [w0, w1, w2, w3, w4, w5, w6, w7, w8, w9, w10, w11, w12, w13, w14, w15, w16, w17, w18, w19, w20, w21, w22, w23, w24, w25])) 7 9 x f = f (.inr (7, [w0, w1, w2, w3, w4, w5, w6, w7, w8, .int x, w10, w11, w12, w13, w14, w15, w16, w17, w18, w19, w20, w21, w22, w23, w24, w25])) := rfl
theorem zgi_7_10 (w0 w1 w2 w3 w4 w5 w6 w7 w8 w9 w11 w12 w13 w14 w15 w16 w17 w18 w19 w20 w21 w22 w23 w24 w25 : Value) (x : Int32) (f : Int32 → zm_O) : zq_gi (.inr (7, [w0, w1, w2, w3, w4, w5, w6, w7, w8, w9, .int x, w11, w12, w13, w14, w15, w16, w17, w18, w19, w20, w21, w22, w23, w24, w25])) 7 10 f = f x := rfl
theorem zpi_7_10 (w0 w1 w2 w3 w4 w5 w6 w7 w8 w9 w10 w11 w12 w13 w14 w15 w16 w17 w18 w19 w20 w21 w22 w23 w24 w25 : Value) (x : Int32) (f : va_E → zm_O) : zq_pi (.inr (7, [w0, w1, w2, w3, w4, w5, w6, w7, w8, w9, w10, w11, w12, w13, w14, w15, w16, w17, w18, w19, w20, w21, w22, w23, w24, w25])) 7 10 x f = f (.inr (7, [w0, w1, w2, w3, w4, w5, w6, w7, w8, w9, .int x, w11, w12, w13, w14, w15, w16, w17, w18, w19, w20, w21, w22, w23, w24, w25])) := rfl
theorem zgi_7_11 (w0 w1 w2 w3 w4 w5 w6 w7 w8 w9 w10 w12 w13 w14 w15 w16 w17 w18 w19 w20 w21 w22 w23 w24 w25 : Value) (x : Int32) (f : Int32 → zm_O) : zq_gi (.inr (7, [w0, w1, w2, w3, w4, w5, w6, w7, w8, w9, w10, .int x, w12, w13, w14, w15, w16, w17, w18, w19, w20, w21, w22, w23, w24, w25])) 7 11 f = f x := rfl
theorem zpi_7_11 (w0 w1 w2 w3 w4 w5 w6 w7 w8 w9 w10 w11 w12 w13 w14 w15 w16 w17 w18 w19 w20 w21 w22 w23 w24 w25 : Value) (x : Int32) (f : va_E → zm_O) : zq_pi (.inr (7, [w0, w1, w2, w3, w4, w5, w6, w7, w8, w9, w10, w11, w12, w13, w14, w15, w16, w17, w18, w19, w20, w21, w22, w23, w24, w25])) 7 11 x f = f (.inr (7, [w0, w1, w2, w3, w4, w5, w6, w7, w8, w9, w10, .int x, w12, w13, w14, w15, w16, w17, w18, w19, w20, w21, w22, w23, w24, w25])) := rfl
theorem zgr_7_12 (w0 w1 w2 w3 w4 w5 w6 w7 w8 w9 w10 w11 w13 w14 w15 w16 w17 w18 w19 w20 w21 w22 w23 w24 w25 : Value) (x : Nat) (f : Nat → zm_O) : zq_gr (.inr (7, [w0, w1, w2, w3, w4, w5, w6, w7, w8, w9, w10, w11, .ref x, w13, w14, w15, w16, w17, w18, w19, w20, w21, w22, w23, w24, w25])) 7 12 f = f x := rfl
theorem zgr_7_13 (w0 w1 w2 w3 w4 w5 w6 w7 w8 w9 w10 w11 w12 w14 w15 w16 w17 w18 w19 w20 w21 w22 w23 w24 w25 : Value) (x : Nat) (f : Nat → zm_O) : zq_gr (.inr (7, [w0, w1, w2, w3, w4, w5, w6, w7, w8, w9, w10, w11, w12, .ref x, w14, w15, w16, w17, w18, w19, w20, w21, w22, w23, w24, w25])) 7 13 f = f x := rfl
theorem zgi_7_14 (w0 w1 w2 w3 w4 w5 w6 w7 w8 w9 w10 w11 w12 w13 w15 w16 w17 w18 w19 w20 w21 w22 w23 w24 w25 : Value) (x : Int32) (f : Int32 → zm_O) : zq_gi (.inr (7, [w0, w1, w2, w3, w4, w5, w6, w7, w8, w9, w10, w11, w12, w13, .int x, w15, w16, w17, w18, w19, w20, w21, w22, w23, w24, w25])) 7 14 f = f x := rfl
theorem zpi_7_14 (w0 w1 w2 w3 w4 w5 w6 w7 w8 w9 w10 w11 w12 w13 w14 w15 w16 w17 w18 w19 w20 w21 w22 w23 w24 w25 : Value) (x : Int32) (f : va_E → zm_O) : zq_pi (.inr (7, [w0, w1, w2, w3, w4, w5, w6, w7, w8, w9, w10, w11, w12, w13, w14, w15, w16, w17, w18, w19, w20, w21, w22, w23, w24, w25])) 7 14 x f = f (.inr (7, [w0, w1, w2, w3, w4, w5, w6, w7, w8, w9, w10, w11, w12, w13, .int x, w15, w16, w17, w18, w19, w20, w21, w22, w23, w24, w25])) := rfl
theorem zgi_7_15 (w0 w1 w2 w3 w4 w5 w6 w7 w8 w9 w10 w11 w12 w13 w14 w16 w17 w18 w19 w20 w21 w22 w23 w24 w25 : Value) (x : Int32) (f : Int32 → zm_O) : zq_gi (.inr (7, [w0, w1, w2, w3, w4, w5, w6, w7, w8, w9, w10, w11, w12, w13, w14, .int x, w16, w17, w18, w19, w20, w21, w22, w23, w24, w25])) 7 15 f = f x := rfl
theorem zpi_7_15 (w0 w1 w2 w3 w4 w5 w6 w7 w8 w9 w10 w11 w12 w13 w14 w15 w16 w17 w18 w19 w20 w21 w22 w23 w24 w25 : Value) (x : Int32) (f : va_E → zm_O) : zq_pi (.inr (7, [w0, w1, w2, w3, w4, w5, w6, w7, w8, w9, w10, w11, w12, w13, w14, w15, w16, w17, w18, w19, w20, w21, w22, w23, w24, w25])) 7 15 x f = f (.inr (7, [w0, w1, w2, w3, w4, w5, w6, w7, w8, w9, w10, w11, w12, w13, w14, .int x, w16, w17, w18, w19, w20, w21, w22, w23, w24, w25])) := rfl
theorem zgi_7_16 (w0 w1 w2 w3 w4 w5 w6 w7 w8 w9 w10 w11 w12 w13 w14 w15 w17 w18 w19 w20 w21 w22 w23 w24 w25 : Value) (x : Int32) (f : Int32 → zm_O) : zq_gi (.inr (7, [w0, w1, w2, w3, w4, w5, w6, w7, w8, w9, w10, w11, w12, w13, w14, w15, .int x, w17, w18, w19, w20, w21, w22, w23, w24, w25])) 7 16 f = f x := rfl
theorem zpi_7_16 (w0 w1 w2 w3 w4 w5 w6 w7 w8 w9 w10 w11 w12 w13 w14 w15 w16 w17 w18 w19 w20 w21 w22 w23 w24 w25 : Value) (x : Int32) (f : va_E → zm_O) : zq_pi (.inr (7, [w0, w1, w2, w3, w4, w5, w6, w7, w8, w9, w10, w11, w12, w13, w14, w15, w16, w17, w18, w19, w20, w21, w22, w23, w24, w25])) 7 16 x f = f (.inr (7, [w0, w1, w2, w3, w4, w5, w6, w7, w8, w9, w10, w11, w12, w13, w14, w15, .int x, w17, w18, w19, w20, w21, w22, w23, w24, w25])) := rfl
theorem zgr_7_17 (w0 w1 w2 w3 w4 w5 w6 w7 w8 w9 w10 w11 w12 w13 w14 w15 w16 w18 w19 w20 w21 w22 w23 w24 w25 : Value) (x : Nat) (f : Nat → zm_O) : zq_gr (.inr (7, [w0, w1, w2, w3, w4, w5, w6, w7, w8, w9, w10, w11, w12, w13, w14, w15, w16, .ref x, w18, w19, w20, w21, w22, w23, w24, w25])) 7 17 f = f x := rfl
theorem zgr_7_18 (w0 w1 w2 w3 w4 w5 w6 w7 w8 w9 w10 w11 w12 w13 w14 w15 w16 w17 w19 w20 w21 w22 w23 w24 w25 : Value) (x : Nat) (f : Nat → zm_O) : zq_gr (.inr (7, [w0, w1, w2, w3, w4, w5, w6, w7, w8, w9, w10, w11, w12, w13, w14, w15, w16, w17, .ref x, w19, w20, w21, w22, w23, w24, w25])) 7 18 f = f x := rfl
theorem zgi_7_19 (w0 w1 w2 w3 w4 w5 w6 w7 w8 w9 w10 w11 w12 w13 w14 w15 w16 w17 w18 w20 w21 w22 w23 w24 w25 : Value) (x : Int32) (f : Int32 → zm_O) : zq_gi (.inr (7, [w0, w1, w2, w3, w4, w5, w6, w7, w8, w9, w10, w11, w12, w13, w14, w15, w16, w17, w18, .int x, w20, w21, w22, w23, w24, w25])) 7 19 f = f x := rfl
theorem zpi_7_19 (w0 w1 w2 w3 w4 w5 w6 w7 w8 w9 w10 w11 w12 w13 w14 w15 w16 w17 w18 w19 w20 w21 w22 w23 w24 w25 : Value) (x : Int32) (f : va_E → zm_O) : zq_pi (.inr (7, [w0, w1, w2, w3, w4, w5, w6, w7, w8, w9, w10, w11, w12, w13, w14, w15, w16, w17, w18, w19, w20, w21, w22, w23, w24, w25])) 7 19 x f = f (.inr (7, [w0, w1, w2, w3, w4, w5, w6, w7, w8, w9, w10, w11, w12, w13, w14, w15, w16, w17, w18, .int x, w20, w21, w22, w23, w24, w25])) := rfl
theorem zgr_7_20 (w0 w1 w2 w3 w4 w5 w6 w7 w8 w9 w10 w11 w12 w13 w14 w15 w16 w17 w18 w19 w21 w22 w23 w24 w25 : Value) (x : Nat) (f : Nat → zm_O) : zq_gr (.inr (7, [w0, w1, w2, w3, w4, w5, w6, w7, w8, w9, w10, w11, w12, w13, w14, w15, w16, w17, w18, w19, .ref x, w21, w22, w23, w24, w25])) 7 20 f = f x := rfl
theorem zgr_7_21 (w0 w1 w2 w3 w4 w5 w6 w7 w8 w9 w10 w11 w12 w13 w14 w15 w16 w17 w18 w19 w20 w22 w23 w24 w25 : Value) (x : Nat) (f : Nat → zm_O) : zq_gr (.inr (7, [w0, w1, w2, w3, w4, w5, w6, w7, w8, w9, w10, w11, w12, w13, w14, w15, w16, w17, w18, w19, w20, .ref x, w22, w23, w24, w25])) 7 21 f = f x := rfl
theorem zgr_7_22 (w0 w1 w2 w3 w4 w5 w6 w7 w8 w9 w10 w11 w12 w13 w14 w15 w16 w17 w18 w19 w20 w21 w23 w24 w25 : Value) (x : Nat) (f : Nat → zm_O) : zq_gr (.inr (7, [w0, w1, w2, w3, w4, w5, w6, w7, w8, w9, w10, w11, w12, w13, w14, w15, w16, w17, w18, w19, w20, w21, .ref x, w23, w24, w25])) 7 22 f = f x := rfl
theorem zgr_7_23 (w0 w1 w2 w3 w4 w5 w6 w7 w8 w9 w10 w11 w12 w13 w14 w15 w16 w17 w18 w19 w20 w21 w22 w24 w25 : Value) (x : Nat) (f : Nat → zm_O) : zq_gr (.inr (7, [w0, w1, w2, w3, w4, w5, w6, w7, w8, w9, w10, w11, w12, w13, w14, w15, w16, w17, w18, w19, w20, w21, w22, .ref x, w24, w25])) 7 23 f = f x := rfl
theorem zgr_7_24 (w0 w1 w2 w3 w4 w5 w6 w7 w8 w9 w10 w11 w12 w13 w14 w15 w16 w17 w18 w19 w20 w21 w22 w23 w25 : Value) (x : Nat) (f : Nat → zm_O) : zq_gr (.inr (7, [w0, w1, w2, w3, w4, w5, w6, w7, w8, w9, w10, w11, w12, w13, w14, w15, w16, w17, w18, w19, w20, w21, w22, w23, .ref x, w25])) 7 24 f = f x := rfl
theorem zgi_7_25 (w0 w1 w2 w3 w4 w5 w6 w7 w8 w9 w10 w11 w12 w13 w14 w15 w16 w17 w18 w19 w20 w21 w22 w23 w24 : Value) (x : Int32) (f : Int32 → zm_O) : zq_gi (.inr (7, [w0, w1, w2, w3, w4, w5, w6, w7, w8, w9, w10, w11, w12, w13, w14, w15, w16, w17, w18, w19, w20, w21, w22, w23, w24, .int x])) 7 25 f = f x := rfl
theorem zpi_7_25 (w0 w1 w2 w3 w4 w5 w6 w7 w8 w9 w10 w11 w12 w13 w14 w15 w16 w17 w18 w19 w20 w21 w22 w23 w24 w25 : Value) (x : Int32) (f : va_E → zm_O) : zq_pi (.inr (7, [w0, w1, w2, w3, w4, w5, w6, w7, w8, w9, w10, w11, w12, w13, w14, w15, w16, w17, w18, w19, w20, w21, w22, w23, w24, w25])) 7 25 x f = f (.inr (7, [w0, w1, w2, w3, w4, w5, w6, w7, w8, w9, w10, w11, w12, w13, w14, w15, w16, w17, w18, w19, w20, w21, w22, w23, w24, .int x])) := rfl
