def tk_nl (j : Nat) : Nat := (zm_byt.getD j []).length
def tk_nc (j k : Nat) : Int32 := (zm_byt.getD j []).getD k 0
def tk_eq (b : Nat → Int32) (j q : Nat) : Nat → Nat → Bool
  | 0, _ => true
  | m + 1, k => if b (q + k) = tk_nc j k then tk_eq b j q m (k + 1) else false
def tk_is (b : Nat → Int32) (j q e : Nat) : Bool := if e - q = tk_nl j then tk_eq b j q (tk_nl j) 0 else false
def tk_nm (b : Nat → Int32) (q e : Nat) : Nat := if tk_is b 0 q e = true then 0 else if tk_is b 1 q e = true then 1 else if tk_is b 2 q e = true then 2 else if tk_is b 3 q e = true then 3 else if tk_is b 4 q e = true then 4 else 5
def tk_N (t : tk_T) (p : Nat) : Nat := if tk_S t p = 0 then tk_nm t.2 (tk_Q t p) (tk_E t p) else 5
theorem tk_nl_lt : ∀ j, j < 5 → tk_nl j < 7 ∧ 0 < tk_nl j := by decide
theorem tk_nc_ok : ∀ j, j < 5 → ∀ k, k < 7 → ((tk_nc j k &&& (255 : Int32)).toUInt32 % 65536).toInt32 = tk_nc j k ∧ narrow .char (.int (tk_nc j k)) = .int (tk_nc j k) := by decide +kernel
section ZT79
variable {h : zm_H} {t : tk_T} {p : Nat} {g : Nat → Int32}
theorem zst_o {j : Nat} {o : zm_O} (hj : j < 5) : zq_st (1000002 + j) o = o := if_pos (by omega)
theorem qs_coder {j : Nat} (hj : j < 5) : zm_call 5 [.ref (1000002 + j)] h = some (some (.int 0), h) := by
  rw [zc5, zm_nx, zb5_0, if_neg (by decide), zm_nx, zb5_6, zst_o hj, zm_nx, zb5_14]
  exact if_pos (by decide)
theorem qs_latin {j : Nat} (hj : j < 5) : zm_call 6 [.ref (1000002 + j)] h = some (some (.int 1), h) := by
  rw [zc6, zm_nx, zb6_0, if_neg (by decide), zm_nx, zb6_6, zst_o hj, if_neg (by decide), zm_nx, zb6_13, zm_nx, zb6_18, zq_rz_1]
theorem zvl_o {j : Nat} {f : Int32 → zm_O} (hj : j < 5) : zq_vl (1000002 + j + 5) f = f (nI (tk_nl j)) := by
  unfold zq_vl
  rw [if_pos (by omega), show 1000002 + j + 5 - 1000007 = j by omega]
  rfl
theorem qs_len {j : Nat} (hj : j < 5) : zm_call 7 [.ref (1000002 + j)] h = some (some (.int (nI (tk_nl j))), h) := by
  have e : ∀ j, j < 5 → nI (tk_nl j) >>> ((0 : Int32) &&& 31) = nI (tk_nl j) := by decide +kernel
  rw [zc7, zm_nx, zb7_0, zst_o hj, zvl_o hj, zst_o hj, qs_coder hj, zq_bi_o, e j hj]
theorem qs_at {j k : Nat} (hj : j < 5) (hk : k < tk_nl j) : zm_call 3 [.ref (1000002 + j), .int (nI k)] h = some (some (.int (tk_nc j k)), h) := by
  have hl := tk_nl_lt j hj
  have h10 : ¬ (1 : Int32) = 0 := by decide
  have ck : zm_call 4 [.int (nI k), .int (nI (tk_nl j))] h = some (none, h) := by
    rw [zc4, zm_nx, zb4_0, zc2, zm_nx, zb2_0, if_neg (nI_pos (by omega)), zm_nx, zb2_4, if_pos (nI_lt hk (by omega)), zm_nx, zb2_16, zq_bi_o]
  have ok := tk_nc_ok j hj k (by omega)
  have vb : ∀ f : Int32 → zm_O, zq_vb (1000002 + j + 5) (nI k) f = f (tk_nc j k) := fun f => by
    unfold zq_vb
    rw [show 1000002 + j + 5 - 1000007 = j by omega, if_pos ⟨by omega, by omega, zm_vin_n hk (by show tk_nl j < 2 ^ 31; omega)⟩, nI_clamp (by omega)]
    rfl
  have rn : ∀ h : zm_H, zq_rn .char (tk_nc j k) h = some (some (.int (tk_nc j k)), h) := fun h => if_pos ok.2
  have c8 : zm_call 8 [.ref (1000002 + j + 5), .int (nI k)] h = some (some (.int (tk_nc j k)), h) := by
    rw [zc8, zm_nx, zb8_0, zvl_o hj, ck, zq_bv_o, vb, ok.1, rn]
  rw [zc3, zm_nx, zb3_0, zst_o hj, qs_latin hj, zq_bi_o, if_neg h10, zm_nx, zb3_7, zst_o hj, c8, zq_bi_o, rn]
theorem qc_name_l {n j q e : Nat} {k0 v0 : Int32} (hj : j < 5) (hq : q + tk_nl j ≤ 160) (h91 : zm_g h 92 = zc_tp n (nI e) k0 (nI q) v0) (hg : zm_g h 93 = .inl (1, 160, .inl g)) : ∀ (m k : Nat), k + m = tk_nl j → zm_den 5 43 27 [.ref 92, .ref (1000002 + j), .int (nI k)] [] h = some (some (.int (zx_b (tk_eq g j q m k))), h) := by
  have hl := tk_nl_lt j hj
  intro m
  induction m with
  | zero =>
    intro k hk
    rw [zb43_27, zst_o hj, qs_len hj, zq_bi_o, if_pos (nI_le (by omega) (by omega)), zm_nx, zb43_62, zq_rz_1]
    rfl
  | succ m ih =>
    intro k hk
    rw [zb43_27, zst_o hj, qs_len hj, zq_bi_o, if_neg (nI_ge (by omega) (by omega)), zm_nx, zb43_35]
    simp only [h91, ztg0, ztg4, hg, nI_add, zq_al_o (show q + k < 160 by omega) (show (160 : Nat) < 2 ^ 31 by decide), zst_o hj, qs_at hj (show k < tk_nl j by omega), zq_bi_o, zm_nx]
    unfold tk_eq
    by_cases z : g (q + k) = tk_nc j k
    · rw [if_pos z, if_pos z, zb43_56, zm_nx, nI_1]
      exact ih (k + 1) (by omega)
    · rw [if_neg z, if_neg z, zb43_54, zq_rz_0]
      rfl
theorem qc_name {n j q e s : Nat} {v0 : Int32} (hj : j < 5) (hqe : q ≤ e) (he : e ≤ 160) (hs : s < 100) (h91 : zm_g h 92 = zc_tp n (nI e) (nI s) (nI q) v0) (hg : zm_g h 93 = .inl (1, 160, .inl g)) : zm_call 43 [.ref 92, .ref (1000002 + j)] h = some (some (.int (zx_b (decide (s = 0) && tk_is g j q e))), h) := by
  have hl := tk_nl_lt j hj
  rw [zc43, zm_nx, zb43_0]
  simp only [h91, ztg3, zm_nx]
  by_cases z : s = 0
  · subst z
    rw [if_neg (by decide), zb43_7]
    simp only [h91, ztg2, ztg4, zst_o hj, qs_len hj, zq_bi_o, pk_sub hqe, zm_nx]
    unfold tk_is
    by_cases y : e - q = tk_nl j
    · rw [if_pos (show nI (e - q) = nI (tk_nl j) by rw [y]), if_pos y, zb43_25, zm_nx]
      have := qc_name_l (v0 := v0) hj (by omega) h91 hg (tk_nl j) 0 (by omega)
      exact this
    · rw [if_neg (fun w => y ((nI_eq (by omega) (by omega)).mp w)), if_neg y, zb43_23, zq_rz_0]
      rfl
  · rw [if_pos (show ¬ nI s = (0 : Int32) from nI_ne0 (by omega) (by omega)), zb43_23, zq_rz_0, decide_eq_false z]
    rfl
theorem tk_eq_c {b b' : Nat → Int32} {j q : Nat} : ∀ m k, (∀ i, q ≤ i → i < q + k + m → b i = b' i) → tk_eq b j q m k = tk_eq b' j q m k
  | 0, _, _ => rfl
  | m + 1, k, h => by
    unfold tk_eq
    rw [h (q + k) (by omega) (by omega), tk_eq_c m (k + 1) fun i i1 i2 => h i i1 (by omega)]
theorem tk_is_c {b b' : Nat → Int32} {j q e : Nat} (hj : j < 5) (h : ∀ i, i < e → b i = b' i) : tk_is b j q e = tk_is b' j q e := by
  unfold tk_is
  have hl := tk_nl_lt j hj
  by_cases z : e - q = tk_nl j
  · rw [if_pos z, if_pos z]
    exact tk_eq_c _ _ fun i i1 i2 => h i (by omega)
  · rw [if_neg z, if_neg z]
end ZT79
