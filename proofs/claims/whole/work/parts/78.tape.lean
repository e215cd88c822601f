def tk_s2 (x : Int32) : Nat := if ¬ x = 59 then 3 else 2
def tk_s1 (x : Int32) : Nat := if x < 48 then tk_s2 x else if 57 < x then tk_s2 x else 1
def tk_so (x : Int32) : Nat := if x < 97 then tk_s1 x else if 122 < x then tk_s1 x else 0
def tk_sk (b : Nat → Int32) : Nat → Nat → Nat
  | 0, p => p
  | k + 1, p => if ¬ b p = 32 then p else tk_sk b k (p + 1)
def tk_rn (b : Nat → Int32) (s : Nat) : Nat → Nat → Nat
  | 0, p => p
  | k + 1, p => if tk_so (b p) = s then tk_rn b s k (p + 1) else p
def tk_v (b : Nat → Int32) : Nat → Nat → Int32 → Int32
  | 0, _, v => v
  | k + 1, j, v => tk_v b k (j + 1) (10 * v + (b j - 48))
abbrev tk_T : Type := Nat × (Nat → Int32)
def tk_Q (t : tk_T) (p : Nat) : Nat := tk_sk t.2 (t.1 - p) p
def tk_S0 (t : tk_T) (p : Nat) : Nat := if tk_Q t p < t.1 then tk_so (t.2 (tk_Q t p)) else 4
def tk_E (t : tk_T) (p : Nat) : Nat := if tk_S0 t p = 4 then tk_Q t p else if tk_S0 t p < 2 then tk_rn t.2 (tk_S0 t p) (t.1 - (tk_Q t p + 1)) (tk_Q t p + 1) else tk_Q t p + 1
def tk_S (t : tk_T) (p : Nat) : Nat := if tk_S0 t p = 1 ∧ 2 < tk_E t p - tk_Q t p then 3 else tk_S0 t p
def tk_V (t : tk_T) (p : Nat) : Int32 := tk_v t.2 (tk_E t p - tk_Q t p) (tk_Q t p) 0
theorem tk_so_lt (x : Int32) : tk_so x < 4 := by
  unfold tk_so tk_s1 tk_s2
  repeat' split
  all_goals decide
theorem tk_sk_le {b : Nat → Int32} : ∀ k p, p ≤ tk_sk b k p ∧ tk_sk b k p ≤ p + k
  | 0, p => ⟨Nat.le_refl _, Nat.le_refl _⟩
  | k + 1, p => by
    unfold tk_sk
    by_cases z : b p = 32
    · rw [if_neg (not_not_intro z)]
      have := tk_sk_le (b := b) k (p + 1)
      omega
    · rw [if_pos z]
      omega
theorem tk_rn_le {b : Nat → Int32} {s : Nat} : ∀ k p, p ≤ tk_rn b s k p ∧ tk_rn b s k p ≤ p + k
  | 0, p => ⟨Nat.le_refl _, Nat.le_refl _⟩
  | k + 1, p => by
    unfold tk_rn
    by_cases z : tk_so (b p) = s
    · rw [if_pos z]
      have := tk_rn_le (b := b) (s := s) k (p + 1)
      omega
    · rw [if_neg z]
      omega
theorem tk_rn_s {b : Nat → Int32} {s : Nat} : ∀ k p j, p ≤ j → j < tk_rn b s k p → tk_so (b j) = s
  | 0, p, j, h1, h2 => absurd (show j < p from h2) (by omega)
  | k + 1, p, j, h1, h2 => by
    unfold tk_rn at h2
    by_cases z : tk_so (b p) = s
    · rw [if_pos z] at h2
      by_cases e : j = p
      · subst e
        exact z
      · exact tk_rn_s k (p + 1) j (by omega) h2
    · rw [if_neg z] at h2
      exact absurd h2 (by omega)
section ZT78
variable {h : zm_H} {t : tk_T} {p : Nat}
theorem tk_Q_le (hp : p ≤ t.1) : p ≤ tk_Q t p ∧ tk_Q t p ≤ t.1 := by
  have := tk_sk_le (b := t.2) (t.1 - p) p
  unfold tk_Q
  omega
theorem tk_S0_4 : tk_S0 t p = 4 ↔ ¬ tk_Q t p < t.1 := by
  unfold tk_S0
  by_cases z : tk_Q t p < t.1
  · rw [if_pos z]
    have := tk_so_lt (t.2 (tk_Q t p))
    exact ⟨fun q => by omega, fun q => absurd z q⟩
  · rw [if_neg z]
    exact ⟨fun _ => z, fun _ => rfl⟩
theorem tk_E_le (hp : p ≤ t.1) : tk_Q t p ≤ tk_E t p ∧ tk_E t p ≤ t.1 ∧ (tk_Q t p < t.1 → tk_Q t p < tk_E t p) := by
  have hq := tk_Q_le hp
  unfold tk_E
  by_cases z : tk_S0 t p = 4
  · rw [if_pos z]
    have := tk_S0_4.mp z
    omega
  · have z' : tk_Q t p < t.1 := by
      by_cases y : tk_Q t p < t.1
      · exact y
      · exact absurd (tk_S0_4.mpr y) z
    rw [if_neg z]
    by_cases y : tk_S0 t p < 2
    · rw [if_pos y]
      have := tk_rn_le (b := t.2) (s := tk_S0 t p) (t.1 - (tk_Q t p + 1)) (tk_Q t p + 1)
      omega
    · rw [if_neg y]
      omega
theorem tk_S_4 : tk_S t p = 4 ↔ tk_S0 t p = 4 := by
  unfold tk_S
  by_cases z : tk_S0 t p = 1 ∧ 2 < tk_E t p - tk_Q t p
  · rw [if_pos z]
    exact ⟨fun q => absurd q (by decide), fun q => absurd z.1 (by omega)⟩
  · rw [if_neg z]
theorem tk_S_1 (hs : tk_S t p = 1) : tk_S0 t p = 1 ∧ tk_E t p - tk_Q t p ≤ 2 ∧ tk_Q t p < t.1 := by
  unfold tk_S at hs
  by_cases z : tk_S0 t p = 1 ∧ 2 < tk_E t p - tk_Q t p
  · rw [if_pos z] at hs
    exact absurd hs (by decide)
  · rw [if_neg z] at hs
    refine ⟨hs, by omega, ?_⟩
    by_cases y : tk_Q t p < t.1
    · exact y
    · have := tk_S0_4.mpr y
      omega
theorem tk_so_1 {c : Nat} (hc : c < 128) (h : tk_so (nI c) = 1) : 48 ≤ c ∧ c ≤ 57 := by
  have : ∀ c, c < 128 → tk_so (nI c) = 1 → 48 ≤ c ∧ c ≤ 57 := by decide +kernel
  exact this c hc h
theorem tk_V_n (hp : p ≤ t.1) (hb : ∀ j, j < t.1 → ∃ c, c < 128 ∧ t.2 j = nI c) (hs : tk_S t p = 1) : ∃ v, v ≤ 99 ∧ tk_V t p = nI v := by
  obtain ⟨h1, h2, h3⟩ := tk_S_1 hs
  have he := tk_E_le hp
  obtain ⟨c, hc, ec⟩ := hb _ h3
  have s0 : tk_so (t.2 (tk_Q t p)) = 1 := by
    unfold tk_S0 at h1
    rw [if_pos h3] at h1
    exact h1
  have c1 := tk_so_1 hc (by rw [← ec]; exact s0)
  have e48 : nI c - 48 = nI (c - 48) := pk_sub (b := 48) c1.1
  unfold tk_V
  have one : tk_E t p - tk_Q t p = 1 ∨ tk_E t p - tk_Q t p = 2 := by
    have := he.2.2 h3
    omega
  rcases one with e | e
  · refine ⟨c - 48, by omega, ?_⟩
    rw [e]
    show 10 * 0 + (t.2 (tk_Q t p) - 48) = _
    rw [ec, e48, Int32.mul_zero, Int32.zero_add]
  · have hj : tk_Q t p + 1 < t.1 := by omega
    obtain ⟨d, hd, ed⟩ := hb _ hj
    have s1 : tk_so (t.2 (tk_Q t p + 1)) = 1 := by
      have lt2 : tk_S0 t p < 2 := by omega
      have ne4 : ¬ tk_S0 t p = 4 := by omega
      have hE : tk_E t p = tk_rn t.2 (tk_S0 t p) (t.1 - (tk_Q t p + 1)) (tk_Q t p + 1) := by
        unfold tk_E
        rw [if_neg ne4, if_pos lt2]
      have := tk_rn_s (b := t.2) (s := tk_S0 t p) (t.1 - (tk_Q t p + 1)) (tk_Q t p + 1) (tk_Q t p + 1) (Nat.le_refl _) (by rw [← hE]; omega)
      rw [h1] at this
      exact this
    have d1 := tk_so_1 hd (by rw [← ed]; exact s1)
    have f48 : nI d - 48 = nI (d - 48) := pk_sub (b := 48) d1.1
    refine ⟨10 * (c - 48) + (d - 48), by omega, ?_⟩
    rw [e]
    show 10 * (10 * 0 + (t.2 (tk_Q t p) - 48)) + (t.2 (tk_Q t p + 1) - 48) = _
    rw [ec, ed, e48, f48, Int32.mul_zero, Int32.zero_add, show (10 : Int32) * nI (c - 48) = nI (10 * (c - 48)) from pk_mul 10 _, nI_add]
/-- the class's tape, its cell -/
def zc_tp (n : Nat) (a k p v : Int32) : va_E := .inr (4, [.ref 93, .int (nI n), .int a, .int k, .int p, .int v])
theorem ztg0 {n : Nat} {a k p v : Int32} {o : Nat → zm_O} : zq_gr (zc_tp n a k p v) 4 0 o = o 93 := rfl
theorem ztg1 {n : Nat} {a k p v : Int32} {o : Int32 → zm_O} : zq_gi (zc_tp n a k p v) 4 1 o = o (nI n) := rfl
theorem ztg2 {n : Nat} {a k p v : Int32} {o : Int32 → zm_O} : zq_gi (zc_tp n a k p v) 4 2 o = o a := rfl
theorem ztg3 {n : Nat} {a k p v : Int32} {o : Int32 → zm_O} : zq_gi (zc_tp n a k p v) 4 3 o = o k := rfl
theorem ztg4 {n : Nat} {a k p v : Int32} {o : Int32 → zm_O} : zq_gi (zc_tp n a k p v) 4 4 o = o p := rfl
theorem ztg5 {n : Nat} {a k p v : Int32} {o : Int32 → zm_O} : zq_gi (zc_tp n a k p v) 4 5 o = o v := rfl
theorem ztp2 {n : Nat} {a k p v x : Int32} {o : va_E → zm_O} : zq_pi (zc_tp n a k p v) 4 2 x o = o (zc_tp n x k p v) := rfl
theorem ztp3 {n : Nat} {a k p v x : Int32} {o : va_E → zm_O} : zq_pi (zc_tp n a k p v) 4 3 x o = o (zc_tp n a x p v) := rfl
theorem ztp4 {n : Nat} {a k p v x : Int32} {o : va_E → zm_O} : zq_pi (zc_tp n a k p v) 4 4 x o = o (zc_tp n a k x v) := rfl
theorem ztp5 {n : Nat} {a k p v x : Int32} {o : va_E → zm_O} : zq_pi (zc_tp n a k p v) 4 5 x o = o (zc_tp n a k p x) := rfl
theorem ztrc {n : Nat} {a k p v : Int32} {o : zm_O} : zq_rc (zc_tp n a k p v) 4 o = o := rfl
theorem qc_sort {x : Int32} : zm_call 45 [.int x] h = some (some (.int (nI (tk_so x))), h) := by
  have a : zm_den 1 45 28 [.int x] [] h = some (some (.int (nI (tk_s2 x))), h) := by
    rw [zb45_28]
    unfold tk_s2
    by_cases z : x = 59
    · rw [if_neg (not_not_intro z), if_neg (not_not_intro z), zm_nx, zb45_34, zm_nx, zb45_39]
      rfl
    · rw [if_pos z, if_pos z, zm_nx, zb45_38, zm_nx, zb45_39]
      rfl
  have b : zm_den 1 45 14 [.int x] [] h = some (some (.int (nI (tk_s1 x))), h) := by
    rw [zb45_14]
    unfold tk_s1
    by_cases z : x < 48
    · rw [if_pos z, if_pos z, zm_nx]
      exact a
    · rw [if_neg z, if_neg z, zm_nx, zb45_20]
      by_cases y : 57 < x
      · rw [if_pos y, if_pos y, zm_nx]
        exact a
      · rw [if_neg y, if_neg y, zm_nx, zb45_26]
        rfl
  rw [zc45, zm_nx, zb45_0]
  unfold tk_so
  by_cases z : x < 97
  · rw [if_pos z, if_pos z, zm_nx]
    exact b
  · rw [if_neg z, if_neg z, zm_nx, zb45_6]
    by_cases y : 122 < x
    · rw [if_pos y, if_pos y, zm_nx]
      exact b
    · rw [if_neg y, if_neg y, zm_nx, zb45_12]
      rfl
variable {g : Nat → Int32}
theorem qc_adv1 {k0 p0 v0 : Int32} (hn : t.1 ≤ 160) (hg : zm_g h 93 = .inl (1, 160, .inl g)) (hb : ∀ j, j < t.1 → g j = t.2 j) : ∀ (k p : Nat), p + k = t.1 → zm_den 2 42 0 [.ref 92] [] (zm_s h 92 (zc_tp t.1 (nI p) k0 p0 v0)) = zm_den 2 42 38 [.ref 92] [] (zm_s h 92 (zc_tp t.1 (nI (tk_sk t.2 k p)) k0 p0 v0)) := by
  intro k
  induction k with
  | zero =>
    intro p hp
    rw [zb42_0]
    simp only [zg_ss, ztg2, ztg1]
    rw [if_pos (nI_le (by omega) (by omega)), zm_nx]
    rfl
  | succ k ih =>
    intro p hp
    have g92 : zm_g (zm_s h 92 (zc_tp t.1 (nI p) k0 p0 v0)) 93 = .inl (1, 160, .inl g) := by rw [zg_sn (by decide)]; exact hg
    rw [zb42_0]
    simp only [zg_ss, ztg2, ztg1]
    rw [if_neg (nI_ge (by omega) (by omega)), zm_nx, zb42_11]
    simp only [zg_ss, ztg0, ztg2, g92, zq_al_o (show p < 160 by omega) (show (160 : Nat) < 2 ^ 31 by decide), hb p (by omega), zm_nx]
    unfold tk_sk
    by_cases z : t.2 p = 32
    · rw [if_neg (not_not_intro z), if_neg (not_not_intro z), zb42_25]
      simp only [zg_ss, ztg2, ztp2, zs_ss, nI_1, zm_nx]
      exact ih (p + 1) (by omega)
    · rw [if_pos z, if_pos z]
theorem qc_adv2 {s : Nat} {p0 v0 : Int32} (hs : s < 2) (hn : t.1 ≤ 160) (hg : zm_g h 93 = .inl (1, 160, .inl g)) (hb : ∀ j, j < t.1 → g j = t.2 j) : ∀ (k p : Nat), p + k = t.1 → zm_den 2 42 89 [.ref 92] [] (zm_s h 92 (zc_tp t.1 (nI p) (nI s) p0 v0)) = zm_den 2 42 140 [.ref 92] [] (zm_s h 92 (zc_tp t.1 (nI (tk_rn t.2 s k p)) (nI s) p0 v0)) := by
  intro k
  induction k with
  | zero =>
    intro p hp
    rw [zb42_89]
    simp only [zg_ss, ztg2, ztg1]
    rw [if_pos (nI_le (by omega) (by omega)), zm_nx]
    rfl
  | succ k ih =>
    intro p hp
    have g92 : zm_g (zm_s h 92 (zc_tp t.1 (nI p) (nI s) p0 v0)) 93 = .inl (1, 160, .inl g) := by rw [zg_sn (by decide)]; exact hg
    have st := tk_so_lt (t.2 p)
    rw [zb42_89]
    simp only [zg_ss, ztg2, ztg1]
    rw [if_neg (nI_ge (by omega) (by omega)), zm_nx, zb42_100]
    simp only [zg_ss, ztg3]
    rw [if_neg (show ¬ (2 : Int32) ≤ nI s from nI_ge (b := 2) hs (by decide)), zm_nx, zb42_108]
    simp only [zg_ss, ztg0, ztg2, g92, zq_al_o (show p < 160 by omega) (show (160 : Nat) < 2 ^ 31 by decide), hb p (by omega), qc_sort, zq_bi_o, ztg3, zm_nx]
    unfold tk_rn
    by_cases z : tk_so (t.2 p) = s
    · rw [if_neg (not_not_intro (show nI (tk_so (t.2 p)) = nI s by rw [z])), if_pos z, zb42_127]
      simp only [zg_ss, ztg2, ztp2, zs_ss, nI_1, zm_nx]
      exact ih (p + 1) (by omega)
    · rw [if_pos (fun q => z ((nI_eq (by omega) (by omega)).mp q)), if_neg z]
theorem qc_weigh_l {k0 p0 : Int32} {e : Nat} (he : e ≤ 160) (hg : zm_g h 93 = .inl (1, 160, .inl g)) : ∀ (k j : Nat) (v : Int32), j + k = e → zm_den 1 44 29 [.ref 92, .int (nI j)] [] (zm_s h 92 (zc_tp t.1 (nI e) k0 p0 v)) = some (none, zm_s h 92 (zc_tp t.1 (nI e) k0 p0 (tk_v g k j v))) := by
  intro k
  induction k with
  | zero =>
    intro j v hj
    rw [zb44_29]
    simp only [zg_ss, ztg2]
    rw [if_pos (nI_le (by omega) (by omega)), zm_nx, zb44_64]
    rfl
  | succ k ih =>
    intro j v hj
    have g92 : zm_g (zm_s h 92 (zc_tp t.1 (nI e) k0 p0 v)) 93 = .inl (1, 160, .inl g) := by rw [zg_sn (by decide)]; exact hg
    rw [zb44_29]
    simp only [zg_ss, ztg2]
    rw [if_neg (nI_ge (by omega) (by omega)), zm_nx, zb44_37]
    simp only [zg_ss, ztg5, ztg0, g92, zq_al_o (show j < 160 by omega) (show (160 : Nat) < 2 ^ 31 by decide), ztp5, zs_ss, nI_1, zm_nx]
    exact ih (j + 1) _ (by omega)
theorem tk_v_c {b b' : Nat → Int32} : ∀ k j v, (∀ q, j ≤ q → q < j + k → b q = b' q) → tk_v b k j v = tk_v b' k j v
  | 0, _, _, _ => rfl
  | k + 1, j, v, h => by
    unfold tk_v
    rw [h j (by omega) (by omega)]
    exact tk_v_c k (j + 1) _ fun q q1 q2 => h q (by omega) (by omega)
theorem qc_adv {k0 p0 v0 : Int32} (hp : p ≤ t.1) (hn : t.1 ≤ 160) (hg : zm_g h 93 = .inl (1, 160, .inl g)) (hb : ∀ j, j < t.1 → g j = t.2 j) : ∃ v', zm_call 42 [.ref 92] (zm_s h 92 (zc_tp t.1 (nI p) k0 p0 v0)) = some (none, zm_s h 92 (zc_tp t.1 (nI (tk_E t p)) (nI (tk_S t p)) (nI (tk_Q t p)) v')) ∧ (tk_S t p = 1 → v' = tk_V t p) := by
  have hq := tk_Q_le hp
  have he := tk_E_le hp
  rw [zc42, zm_nx, qc_adv1 hn hg hb (t.1 - p) p (by omega)]
  have eQ : tk_sk t.2 (t.1 - p) p = tk_Q t p := rfl
  rw [eQ, zb42_38]
  simp only [zg_ss, ztg2, ztg1, ztp4, zs_ss]
  by_cases z : tk_Q t p < t.1
  · have n4 : ¬ tk_S0 t p = 4 := fun q => tk_S0_4.mp q z
    have s0 : tk_S0 t p = tk_so (t.2 (tk_Q t p)) := if_pos z
    have g92 : ∀ c, zm_g (zm_s h 92 c) 93 = .inl (1, 160, .inl g) := fun c => by rw [zg_sn (by decide)]; exact hg
    rw [if_pos (nI_lt z (by omega)), zm_nx, zb42_63]
    simp only [zg_ss, ztg0, ztg2, g92, zq_al_o (show tk_Q t p < 160 by omega) (show (160 : Nat) < 2 ^ 31 by decide), hb _ z, qc_sort, zq_bi_o, ztp3, ztp2, zs_ss, nI_1, zm_nx, ← s0]
    have s4 := tk_so_lt (t.2 (tk_Q t p))
    rw [← s0] at s4
    have P2 : zm_den 2 42 89 [.ref 92] [] (zm_s h 92 (zc_tp t.1 (nI (tk_Q t p + 1)) (nI (tk_S0 t p)) (nI (tk_Q t p)) v0)) = zm_den 2 42 140 [.ref 92] [] (zm_s h 92 (zc_tp t.1 (nI (tk_E t p)) (nI (tk_S0 t p)) (nI (tk_Q t p)) v0)) := by
      unfold tk_E
      rw [if_neg n4]
      by_cases y : tk_S0 t p < 2
      · rw [if_pos y]
        exact qc_adv2 y hn hg hb _ _ (by omega)
      · rw [if_neg y, zb42_89]
        simp only [zg_ss, ztg2, ztg1]
        by_cases w : nI t.1 ≤ nI (tk_Q t p + 1)
        · rw [if_pos w, zm_nx]
        · rw [if_neg w, zm_nx, zb42_100]
          simp only [zg_ss, ztg3]
          rw [if_pos (show (2 : Int32) ≤ nI (tk_S0 t p) from nI_le (a := 2) (by omega) (by omega)), zm_nx]
    rw [P2, zb42_140]
    simp only [zg_ss, ztg3, zm_nx]
    by_cases y : tk_S0 t p = 1
    · rw [if_neg (not_not_intro (show nI (tk_S0 t p) = 1 by rw [y]; rfl)), zb42_148]
      have dl : nI (tk_E t p) - nI (tk_Q t p) = nI (tk_E t p - tk_Q t p) := pk_sub he.1
      by_cases w : 2 < tk_E t p - tk_Q t p
      · have W : zm_call 44 [.ref 92] (zm_s h 92 (zc_tp t.1 (nI (tk_E t p)) (nI (tk_S0 t p)) (nI (tk_Q t p)) v0)) = some (none, zm_s h 92 (zc_tp t.1 (nI (tk_E t p)) 3 (nI (tk_Q t p)) v0)) := by
          rw [zc44, zm_nx, zb44_0]
          simp only [zg_ss, ztg2, ztg4, dl]
          rw [if_neg (show ¬ nI (tk_E t p - tk_Q t p) ≤ (2 : Int32) from nI_ge (a := 2) w (by omega)), zm_nx, zb44_13]
          simp only [zg_ss, ztp3, zs_ss]
        have eS : tk_S t p = 3 := if_pos ⟨y, w⟩
        refine ⟨v0, ?_, fun q => absurd q (by omega)⟩
        simp only [zg_ss, ztrc, W, zq_bv_o, zm_nx]
        rw [zb42_152, eS]
        rfl
      · have W : zm_call 44 [.ref 92] (zm_s h 92 (zc_tp t.1 (nI (tk_E t p)) (nI (tk_S0 t p)) (nI (tk_Q t p)) v0)) = some (none, zm_s h 92 (zc_tp t.1 (nI (tk_E t p)) (nI (tk_S0 t p)) (nI (tk_Q t p)) (tk_v g (tk_E t p - tk_Q t p) (tk_Q t p) 0))) := by
          rw [zc44, zm_nx, zb44_0]
          simp only [zg_ss, ztg2, ztg4, dl]
          rw [if_pos (show nI (tk_E t p - tk_Q t p) ≤ (2 : Int32) from nI_le (b := 2) (by omega) (by decide)), zm_nx, zb44_19]
          simp only [zg_ss, ztp5, zs_ss, ztg4, zm_nx]
          exact qc_weigh_l (by omega) hg _ _ _ (by omega)
        have eS : tk_S t p = tk_S0 t p := if_neg (fun q => w q.2)
        refine ⟨_, ?_, fun _ => tk_v_c _ _ _ fun q q1 q2 => hb q (by omega)⟩
        simp only [zg_ss, ztrc, W, zq_bv_o, zm_nx]
        rw [zb42_152, eS]
    · have eS : tk_S t p = tk_S0 t p := if_neg (fun q => y q.1)
      refine ⟨v0, ?_, fun q => absurd (eS.symm.trans q) y⟩
      rw [if_pos (show ¬ nI (tk_S0 t p) = (1 : Int32) from fun q => y ((nI_eq (b := 1) (by omega) (by decide)).mp q)), zb42_152, eS]
  · have n4 : tk_S0 t p = 4 := tk_S0_4.mpr z
    have eE : tk_E t p = tk_Q t p := if_pos n4
    have eS : tk_S t p = 4 := tk_S_4.mpr n4
    refine ⟨v0, ?_, fun q => absurd q (by omega)⟩
    rw [if_neg (nI_nlt (by omega) (by omega)), zm_nx, zb42_57]
    simp only [zg_ss, ztp3, zs_ss, eE, eS]
    rfl
end ZT78
