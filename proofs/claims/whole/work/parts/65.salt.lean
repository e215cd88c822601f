def zp_hv (s : Bool) (P : zp_T) : zp_T := if s = false then P else if zp_reign P = -4 then P else zp_sf P (zp_reign P).toNatClampNeg ((P.2.1 (zp_reign P).toNatClampNeg).1, (P.2.1 (zp_reign P).toNatClampNeg).2.1 / 2, (P.2.1 (zp_reign P).toNatClampNeg).2.2)
def zp_st (s : Bool) (P : zp_T) : zp_T := zp_pass (zp_hv s P)
def zp_val (x : Int32) (P : zp_T) : Nat := if x = 0 then (if zp_reign P = -4 then 0 else 1) else (zr_sum P.1 P.2.1).toNatClampNeg
def zp_Wt (v : Nat) (x : Int32) : Nat → zp_T → Nat
  | 0, P => zp_val x P
  | k + 1, P => v * zp_Wt v x k (zp_st true P) + (10 - v) * zp_Wt v x k (zp_st false P)
theorem zr_sumf_n {v : Nat → zf_T} : ∀ k i a, (∀ j, i ≤ j → j < i + k → zf_ok (v j)) → ∃ S, S ≤ a + 99 * k ∧ zr_sumf v k i (nI a) = nI S
  | 0, _, a, _ => ⟨a, by omega, rfl⟩
  | k + 1, i, a, h => by
    obtain ⟨kk, s, l, -, hs, -, e⟩ := h i (by omega) (by omega)
    obtain ⟨S, h1, h2⟩ := zr_sumf_n k (i + 1) (a + s) fun j j1 j2 => h j (by omega) (by omega)
    refine ⟨S, by omega, ?_⟩
    unfold zr_sumf
    rw [e]
    show zr_sumf v k (i + 1) (nI a + nI s) = _
    rw [nI_add]
    exact h2
theorem zr_sum_n {P : zp_T} (ho : zp_ok P) : ∃ S, S ≤ 495 ∧ zr_sum P.1 P.2.1 = nI S := by
  have := ho.1
  obtain ⟨S, h1, h2⟩ := zr_sumf_n (v := P.2.1) P.1 0 0 fun j _ hj => ho.2.1 j (by omega)
  exact ⟨S, by omega, h2⟩
theorem zr_dead {v : Nat → zf_T} : ∀ k i, i + k ≤ 5 → zr_from v k i = -4 → ∀ j, i ≤ j → j < i + k → (v j).2.1 ≤ 0
  | 0, _, _, _, j, h1, h2 => absurd h2 (by omega)
  | k + 1, i, hi, h, j, h1, h2 => by
    unfold zr_from at h
    by_cases z : (v i).2.1 ≤ 0
    · rw [if_pos z] at h
      by_cases e : j = i
      · subst e
        exact z
      · exact zr_dead k (i + 1) (by omega) h j (by omega) (by omega)
    · rw [if_neg z] at h
      exact absurd h (nI_ne4 (by omega))
theorem zr_sumf_0 {v : Nat → zf_T} : ∀ k i a, (∀ j, i ≤ j → j < i + k → (v j).2.1 = 0) → zr_sumf v k i a = a
  | 0, _, _, _ => rfl
  | k + 1, i, a, h => by
    unfold zr_sumf
    rw [h i (by omega) (by omega), Int32.add_zero]
    exact zr_sumf_0 k (i + 1) a fun j j1 j2 => h j (by omega) (by omega)
section ZT65
variable {h : zm_H} {Y : zy_T} {P : zp_T}
theorem zp_dead (ho : zp_ok P) (hr : zp_reign P = -4) : ∀ j, j < P.1 → (P.2.1 j).2.1 ≤ 0 := fun j hj => zr_dead (v := P.2.1) P.1 0 (by have := ho.1; omega) hr j (by omega) (by omega)
theorem zp_dead_st {s : Bool} (ho : zp_ok P) (hr : zp_reign P = -4) : zp_reign (zp_st s P) = -4 := by
  have e : zp_hv s P = P := by
    unfold zp_hv
    rw [if_pos hr]
    split <;> rfl
  unfold zp_st
  rw [e, ← hr]
  refine zv_from (v := (zp_pass P).2.1) (w := P.2.1) P.1 0 fun j hj => ?_
  have hj' : j < P.1 := by omega
  rw [zp_pass_i hj']
  unfold zf_pass
  rw [if_pos (zp_dead ho hr j hj')]
theorem zp_hv_r {j : Nat} (hj : j < P.1) (hn : P.1 ≤ 5) (e : zp_reign P = nI j) : zp_hv true P = zp_sf P j ((P.2.1 j).1, (P.2.1 j).2.1 / 2, (P.2.1 j).2.2) := by
  unfold zp_hv
  rw [if_neg (by decide), if_neg (by rw [e]; exact nI_ne4 (by omega)), e, nI_clamp (by omega)]
theorem zp_hv_n {s : Bool} (hr : zp_reign P = -4) : zp_hv s P = P := by
  unfold zp_hv
  rw [if_pos hr]
  split <;> rfl
theorem zp_hv_c {s : Bool} : (zp_hv s P).1 = P.1 ∧ (zp_hv s P).2.2 = P.2.2 := by
  unfold zp_hv
  split
  · exact ⟨rfl, rfl⟩
  · split
    · exact ⟨rfl, rfl⟩
    · exact ⟨rfl, rfl⟩
theorem zp_st_c {s : Bool} : (zp_st s P).1 = P.1 ∧ (zp_st s P).2.2.1 = P.2.2.1 ∧ (zp_st s P).2.2.2.1 = P.2.2.2.1 ∧ (zp_st s P).2.2.2.2 = P.2.2.2.2 + 1 := by
  have h := zp_hv_c (P := P) (s := s)
  refine ⟨h.1, ?_, ?_, ?_⟩
  · show (zp_hv s P).2.2.1 = _
    rw [h.2]
  · show (zp_hv s P).2.2.2.1 = _
    rw [h.2]
  · show (zp_hv s P).2.2.2.2 + 1 = _
    rw [h.2]
theorem zp_ok_st {s : Bool} (ho : zp_ok P) : zp_ok (zp_st s P) := by
  refine zp_ok_pass ?_
  cases s with
  | false => exact ho
  | true =>
    rcases zr_reign_spec P.1 P.2.1 with e | ⟨j, hj, e⟩
    · rw [zp_hv_n e]
      exact ho
    · rw [zp_hv_r hj ho.1 e]
      exact zp_ok_sf ho (zf_half (ho.2.1 j hj))
theorem zp_val_dead {x : Int32} (ho : zp_ok P) (hr : zp_reign P = -4) : zp_val x P = 0 := by
  unfold zp_val
  by_cases z : x = 0
  · rw [if_pos z, if_pos hr]
  · rw [if_neg z]
    have : zr_sum P.1 P.2.1 = 0 := zr_sumf_0 P.1 0 0 fun j _ hj => by
      have hj' : j < P.1 := by omega
      have := zp_dead ho hr j hj'
      rw [← zf_sz (ho.2.1 j hj')] at this
      exact this
    rw [this]
    rfl
theorem zp_Wt_dead {v : Nat} {x : Int32} : ∀ (k : Nat) (P : zp_T), zp_ok P → zp_reign P = -4 → zp_Wt v x k P = 0
  | 0, P, ho, hr => zp_val_dead ho hr
  | k + 1, P, ho, hr => by
    unfold zp_Wt
    rw [zp_Wt_dead k _ (zp_ok_st ho) (zp_dead_st ho hr), zp_Wt_dead k _ (zp_ok_st ho) (zp_dead_st ho hr), Nat.mul_zero, Nat.mul_zero]
theorem zp_val_le {x : Int32} (ho : zp_ok P) : zp_val x P ≤ 495 := by
  unfold zp_val
  by_cases z : x = 0
  · rw [if_pos z]
    split <;> omega
  · rw [if_neg z]
    obtain ⟨S, h1, h2⟩ := zr_sum_n ho
    rw [h2, nI_clamp (by omega)]
    exact h1
theorem zp_Wt_le {v : Nat} {x : Int32} (hv : v ≤ 10) : ∀ (k : Nat) (P : zp_T), zp_ok P → zp_Wt v x k P ≤ 495 * 10 ^ k
  | 0, P, ho => by
    have := zp_val_le (x := x) ho
    show zp_val x P ≤ 495 * 10 ^ 0
    omega
  | k + 1, P, ho => by
    have h1 := zp_Wt_le hv (x := x) k _ (zp_ok_st (s := true) ho)
    have h2 := zp_Wt_le hv (x := x) k _ (zp_ok_st (s := false) ho)
    have h3 := Nat.mul_le_mul_left v h1
    have h4 := Nat.mul_le_mul_left (10 - v) h2
    have h5 : v * (495 * 10 ^ k) + (10 - v) * (495 * 10 ^ k) = 495 * 10 ^ (k + 1) := by
      rw [← Nat.add_mul, Nat.pow_succ, show v + (10 - v) = 10 by omega, Nat.mul_left_comm, Nat.mul_comm 10]
    show v * _ + (10 - v) * _ ≤ _
    omega
/-- a row stands at r, up to what lies beyond its number -/
def zr_V (h : zm_H) (r : Nat) (P : zp_T) : Prop := ∃ ad v, zr_W h r ad P.1 v ∧ ∀ i, i < P.1 → v i = P.2.1 i
theorem zR_keep {h' : zm_H} {r : Nat} (hV : zr_V h r P) (hk : ∀ b, r ≤ b → b < r + 7 → zm_g h' b = zm_g h b) : zr_V h' r P := by
  obtain ⟨ad, v, h1, h2⟩ := hV
  exact ⟨ad, v, zr_keep h1 hk, h2⟩
theorem qr_reign {r : Nat} (hV : zr_V h r P) : zm_call 22 [.ref r] h = some (some (.int (zp_reign P)), h) := by
  obtain ⟨ad, v, h1, h2⟩ := hV
  have e : zr_reign P.1 v = zp_reign P := zv_from P.1 0 fun j hj => h2 j (by omega)
  rw [qc_reign h1, e]
theorem qr_sum {r : Nat} (hV : zr_V h r P) : zm_call 26 [.ref r] h = some (some (.int (zr_sum P.1 P.2.1)), h) := by
  obtain ⟨ad, v, h1, h2⟩ := hV
  have e : zr_sum P.1 v = zr_sum P.1 P.2.1 := zv_sumf P.1 0 0 fun j hj => h2 j (by omega)
  rw [qc_sum h1, e]
theorem qr_copy {r q : Nat} (hd : r + 7 ≤ q ∨ q + 7 ≤ r) (hR : ∃ ad n v, zr_W h r ad n v) (hV : zr_V h q P) : ∃ h', zm_call 19 [.ref r, .ref q] h = some (none, h') ∧ zr_V h' r P ∧ zm_Fr h h' r (r + 7) := by
  obtain ⟨ad, n, w, h3⟩ := hR
  obtain ⟨ad2, v, h1, h2⟩ := hV
  obtain ⟨h', e1, e2, e3⟩ := qc_rcopy hd h3 h1
  exact ⟨h', e1, ⟨ad, _, e2, fun i hi => (if_pos hi).trans (h2 i hi)⟩, e3⟩
theorem qr_fig {r i : Nat} (hV : zr_V h r P) (hi : i < P.1) : ∃ g a, zm_g h (r + 1) = .inl (3, 5, .inr (.inr (.inr (.inr g)))) ∧ g i = some a ∧ zm_g h a = zf_c (P.2.1 i) ∧ r + 2 ≤ a ∧ a < r + 7 ∧ ∀ f, zr_V (zm_s h a (zf_c f)) r (zp_sf P i f) := by
  obtain ⟨ad, v, h1, h2⟩ := hV
  obtain ⟨c1, c2, ⟨g, c3, c4⟩, c5, c6, c7⟩ := id h1
  have hb := c6 i (by omega)
  refine ⟨g, ad i, c3, c4 i (by omega), ?_, hb.1, hb.2, fun f => ⟨ad, _, zr_set h1 (show i < 5 by omega) f, fun j hj => ?_⟩⟩
  · rw [c5 i (by omega), h2 i hi]
  · show (if j = i then f else v j) = (if j = i then f else P.2.1 j)
    by_cases z : j = i
    · rw [if_pos z, if_pos z]
    · rw [if_neg z, if_neg z]
      exact h2 j hj
theorem qr_pass {r : Nat} {w d : Int32} (hV : zr_V h r P) : ∃ h', zm_call 27 [.ref r, .int w, .int d] h = some (none, h') ∧ zr_V h' r (P.1, zr_pass w d P.1 P.2.1, P.2.2) ∧ zm_Fr h h' r (r + 7) := by
  obtain ⟨ad, v, h1, h2⟩ := hV
  obtain ⟨h', e1, e2, e3⟩ := qc_rpass (w := w) (d := d) h1
  refine ⟨h', e1, ⟨ad, _, e2, fun i hi => ?_⟩, zFr_mn e3 (by omega) (by omega)⟩
  have hi' : i < P.1 := hi
  show (if i < P.1 then zf_pass w d (v i) else v i) = (if i < P.1 then zf_pass w d (P.2.1 i) else P.2.1 i)
  rw [if_pos hi', if_pos hi', h2 i hi']
theorem zR_cell {r : Nat} (hV : zr_V h r P) : zm_g h r = .inr (2, [.ref (r + 1), .int (nI P.1)]) := by
  obtain ⟨ad, v, h1, h2⟩ := hV
  exact h1.2.1
theorem zk_rw {h' : zm_H} {j : Nat} (hK : zk_K h Y) (hj : j < 9) (hV : zr_V h' (23 + 7 * j) P) (hF : zm_Fr h h' (23 + 7 * j) (23 + 7 * j + 7)) : zk_K h' Y := by
  refine zk_scr hK ?_ (zFr_mn hF (by omega) (by omega))
  obtain ⟨⟨R, a⟩, ⟨f, b⟩, ⟨g, c1, c2⟩, d, ⟨g2, e1, e2⟩, k⟩ := hK.2.2.1
  refine ⟨⟨R, zV_keep a fun b h1 h2 => hF.2.2 b (by omega)⟩, ⟨f, (hF.2.2 21 (by omega)).trans b⟩, ⟨g, (hF.2.2 22 (by omega)).trans c1, c2⟩, fun i hi => ?_, ⟨g2, (hF.2.2 86 (by omega)).trans e1, e2⟩, fun i hi => ?_⟩
  · by_cases z : i = j
    · subst z
      obtain ⟨ad, v, h1, h2⟩ := hV
      exact ⟨ad, _, v, h1⟩
    · obtain ⟨ad, n, v, hW⟩ := d i hi
      exact ⟨ad, n, v, zr_keep hW fun b h1 h2 => hF.2.2 b (by omega)⟩
  · obtain ⟨w, hw⟩ := k i hi
    exact ⟨w, (hF.2.2 _ (by omega)).trans hw⟩
end ZT65
