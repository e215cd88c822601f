def zx_bt (F b : Nat) : Bool := decide (F / 2 ^ b % 2 = 1)
def zx_cn (F : Nat) (e : Nat → Bool) : Nat → Nat → Nat → Nat
  | 0, _, c => c
  | k + 1, b, c => zx_cn F e k (b + 1) (if zx_bt F b = true ∧ e b = true then c + 1 else c)
def zx_mc (F : Nat) (E : Nat → Nat → Bool) : Nat → Nat → Nat → Nat
  | 0, _, m => m
  | k + 1, a, m => zx_mc F E k (a + 1) (if m < zx_cn F (E a) 4 0 0 then zx_cn F (E a) 4 0 0 else m)
def zx_rc (F : Nat) (E : Nat → Nat → Bool) (a : Nat) : Nat := if zx_bt F a = true then zx_cn F (E a) 4 0 0 else 0
def zx_mr (F : Nat) (E : Nat → Nat → Bool) : Nat → Nat → Nat → Nat
  | 0, _, m => m
  | k + 1, a, m => zx_mr F E k (a + 1) (if m < zx_rc F E a then zx_rc F E a else m)
def zx_sel (c0 c1 c2 c3 a : Nat) : Nat := if a = 0 then c0 else if a = 1 then c1 else if a = 2 then c2 else c3
theorem zx_dec4 : ∀ F, F < 16 → ∀ c0, c0 < 4 → ∀ c1, c1 < 4 → ∀ c2, c2 < 4 → ∀ c3, c3 < 4 → zx_mc F (fun a b => decide (zx_sel c0 c1 c2 c3 a = zx_sel c0 c1 c2 c3 b)) 4 0 0 = zx_mr F (fun a b => decide (zx_sel c0 c1 c2 c3 a = zx_sel c0 c1 c2 c3 b)) 4 0 0 := by decide +kernel
def zx_can (D : Nat → Int32) (a : Nat) : Nat := if D 0 = D a then 0 else if D 1 = D a then 1 else if D 2 = D a then 2 else 3
theorem zx_can_lt (D : Nat → Int32) (a : Nat) : zx_can D a < 4 := by
  unfold zx_can
  repeat' split
  all_goals decide
theorem zx_can_3 {D : Nat → Int32} {a : Nat} (ha : a < 4) (h0 : ¬ D 0 = D a) (h1 : ¬ D 1 = D a) (h2 : ¬ D 2 = D a) : a = 3 := by
  match a, ha with
  | 0, _ => exact absurd rfl h0
  | 1, _ => exact absurd rfl h1
  | 2, _ => exact absurd rfl h2
  | 3, _ => rfl
  | n + 4, h => exact absurd h (by omega)
theorem zx_can_iff {D : Nat → Int32} {a b : Nat} (ha : a < 4) (hb : b < 4) : D a = D b ↔ zx_can D a = zx_can D b := by
  constructor
  · intro e
    unfold zx_can
    rw [e]
  · intro e
    unfold zx_can at e
    by_cases a0 : D 0 = D a
    · rw [if_pos a0] at e
      by_cases b0 : D 0 = D b
      · exact a0.symm.trans b0
      · rw [if_neg b0] at e
        split at e
        · exact absurd e (by decide)
        · split at e <;> exact absurd e (by decide)
    · rw [if_neg a0] at e
      by_cases b0 : D 0 = D b
      · rw [if_pos b0] at e
        split at e
        · exact absurd e (by decide)
        · split at e <;> exact absurd e (by decide)
      · rw [if_neg b0] at e
        by_cases a1 : D 1 = D a
        · rw [if_pos a1] at e
          by_cases b1 : D 1 = D b
          · exact a1.symm.trans b1
          · rw [if_neg b1] at e
            split at e <;> exact absurd e (by decide)
        · rw [if_neg a1] at e
          by_cases b1 : D 1 = D b
          · rw [if_pos b1] at e
            split at e <;> exact absurd e (by decide)
          · rw [if_neg b1] at e
            by_cases a2 : D 2 = D a
            · rw [if_pos a2] at e
              by_cases b2 : D 2 = D b
              · exact a2.symm.trans b2
              · rw [if_neg b2] at e
                exact absurd e (by decide)
            · rw [if_neg a2] at e
              by_cases b2 : D 2 = D b
              · rw [if_pos b2] at e
                exact absurd e (by decide)
              · rw [zx_can_3 ha a0 a1 a2, zx_can_3 hb b0 b1 b2]
theorem zx_cn_c {F : Nat} {e e' : Nat → Bool} : ∀ k b c, (∀ j, b ≤ j → j < b + k → e j = e' j) → zx_cn F e k b c = zx_cn F e' k b c
  | 0, _, _, _ => rfl
  | k + 1, b, c, h => by
    unfold zx_cn
    rw [h b (by omega) (by omega)]
    exact zx_cn_c k (b + 1) _ fun j j1 j2 => h j (by omega) (by omega)
theorem zx_mc_c {F : Nat} {E E' : Nat → Nat → Bool} : ∀ k a m, (∀ i, a ≤ i → i < a + k → ∀ j, j < 4 → E i j = E' i j) → zx_mc F E k a m = zx_mc F E' k a m
  | 0, _, _, _ => rfl
  | k + 1, a, m, h => by
    unfold zx_mc
    rw [zx_cn_c (e := E a) (e' := E' a) 4 0 0 fun j _ hj => h a (by omega) (by omega) j (by omega)]
    exact zx_mc_c k (a + 1) _ fun i i1 i2 => h i (by omega) (by omega)
theorem zx_mr_c {F : Nat} {E E' : Nat → Nat → Bool} : ∀ k a m, (∀ i, a ≤ i → i < a + k → ∀ j, j < 4 → E i j = E' i j) → zx_mr F E k a m = zx_mr F E' k a m
  | 0, _, _, _ => rfl
  | k + 1, a, m, h => by
    unfold zx_mr zx_rc
    rw [zx_cn_c (e := E a) (e' := E' a) 4 0 0 fun j _ hj => h a (by omega) (by omega) j (by omega)]
    exact zx_mr_c k (a + 1) _ fun i i1 i2 => h i (by omega) (by omega)
theorem zx_mcr {F : Nat} (hF : F < 16) (D : Nat → Int32) : zx_mc F (fun a b => decide (D a = D b)) 4 0 0 = zx_mr F (fun a b => decide (D a = D b)) 4 0 0 := by
  have s : ∀ a, a < 4 → zx_sel (zx_can D 0) (zx_can D 1) (zx_can D 2) (zx_can D 3) a = zx_can D a := fun a ha => by
    match a, ha with
    | 0, _ => rfl
    | 1, _ => rfl
    | 2, _ => rfl
    | 3, _ => rfl
    | n + 4, h => exact absurd h (by omega)
  have e : ∀ i, 0 ≤ i → i < 0 + 4 → ∀ j, j < 4 → decide (D i = D j) = decide (zx_sel (zx_can D 0) (zx_can D 1) (zx_can D 2) (zx_can D 3) i = zx_sel (zx_can D 0) (zx_can D 1) (zx_can D 2) (zx_can D 3) j) := fun i _ hi j hj => by
    rw [s i (by omega), s j hj]
    exact decide_eq_decide.mpr (zx_can_iff (by omega) hj)
  rw [zx_mc_c 4 0 0 e, zx_mr_c 4 0 0 e]
  exact zx_dec4 F hF _ (zx_can_lt D 0) _ (zx_can_lt D 1) _ (zx_can_lt D 2) _ (zx_can_lt D 3)
theorem zx_or16 : ∀ b, b < 16 → ∀ v, v < 4 → (nI b ||| ((1 : Int32) <<< (nI v &&& 31))) = nI (b ||| 2 ^ v) ∧ b ||| 2 ^ v < 16 := by decide +kernel
theorem zp_fb_n {s : zs_T} {i w : Nat} {P : zp_T} : ∀ k v b, v + k ≤ 4 → b < 16 → ∃ c, c < 16 ∧ zp_fb s i w P k v (nI b) = nI c
  | 0, _, b, _, hb => ⟨b, hb, rfl⟩
  | k + 1, v, b, hv, hb => by
    unfold zp_fb
    by_cases z : zp_fit s 31 0 (zp_sf P i (zf_put (P.2.1 i) (nI w) (nI v))) = true
    · rw [if_pos z, (zx_or16 b hb v (by omega)).1]
      exact zp_fb_n k (v + 1) _ (by omega) (zx_or16 b hb v (by omega)).2
    · rw [if_neg z]
      exact zp_fb_n k (v + 1) _ (by omega) hb
def zp_D (P : zp_T) (i n a : Nat) : Int32 := zp_dec (zp_run n (zp_sf P i (zf_put (P.2.1 i) (nI 0) (nI a))))
def zp_ask (T : Nat → Int32) : Nat → Nat → Int32 → Int32 → Int32 × Int32
  | 0, _, m, b => (m, b)
  | k + 1, n, m, b => if m ≤ T n then zp_ask T k (n + 1) m b else zp_ask T k (n + 1) (T n) (nI n)
theorem zp_fores_s : ∀ (k i : Nat) (P : zp_T) (g : Nat → Int32), (∀ t, t < k → zp_fores k i P g (i + t) = zp_dec (zp_run t P)) ∧ ∀ t, t < i → zp_fores k i P g t = g t
  | 0, i, P, g => ⟨fun t ht => absurd ht (by omega), fun _ _ => rfl⟩
  | k + 1, i, P, g => by
    have ih := zp_fores_s k (i + 1) (zp_pass P) (upd g i (zp_dec P))
    refine ⟨fun t ht => ?_, fun t ht => ?_⟩
    · show zp_fores k (i + 1) (zp_pass P) (upd g i (zp_dec P)) (i + t) = _
      cases t with
      | zero => exact (ih.2 i (by omega)).trans pk_us
      | succ t =>
        rw [show i + (t + 1) = i + 1 + t by omega, ih.1 t (by omega)]
        rfl
    · show zp_fores k (i + 1) (zp_pass P) (upd g i (zp_dec P)) t = _
      rw [ih.2 t (by omega), pk_un (by omega)]
section ZT73
variable {h h0 : zm_H} {Y : zy_T} {P : zp_T} {i : Nat}
theorem qv_fores {p q : Nat} {g : Nat → Int32} (hd : p + 10 ≤ q ∨ q + 1 ≤ p) (hN : P.2.2.2.2 + 31 < 100000) (hV : zp_V h p P) (hg : zm_g h q = .inl (0, 31, .inl g)) : ∃ h' g', zm_call 38 [.ref p, .ref q, .int 30] h = some (none, h') ∧ (∃ P', zp_V h' p P') ∧ zm_g h' q = .inl (0, 31, .inl g') ∧ (∀ t, t < 31 → g' t = zp_dec (zp_run t P)) ∧ (h'.1 = h.1 ∧ h'.2.1 = h.2.1) ∧ ∀ b, (b < p ∨ p + 10 ≤ b) → b ≠ q → zm_g h' b = zm_g h b := by
  obtain ⟨ad, Q, h1, h2⟩ := hV
  obtain ⟨h', e1, ⟨P', e2⟩, e3, e4, e5⟩ := qc_fores (g := g) hd (by rw [h2.2.2.2]; exact hN) h1 hg
  refine ⟨h', _, e1, ⟨P', ad, P', e2, zv_rf _⟩, e3, fun t ht => ?_, e4, e5⟩
  have := (zp_fores_s 31 0 Q g).1 t ht
  rw [Nat.zero_add] at this
  rw [this]
  refine zv_dec (zv_run t h2) ?_
  rw [zp_run_n]
  exact h1.2.2.1.1
theorem qc_fbk_l (hi : i < Y.1.1) : ∀ (k a : Nat) (h : zm_H), a + k = 4 → zk_K h Y → (∀ c, c < a → ∃ w, zm_g h (87 + c) = .inl (0, 31, .inl w) ∧ ∀ t, t < 31 → w t = zp_D Y.1 i t c) → ∃ h', zm_den 6 120 2 [.ref 0, .int (nI i), .int (nI a)] [] h = some (none, h') ∧ zk_K h' Y ∧ (∀ c, c < 4 → ∃ w, zm_g h' (87 + c) = .inl (0, 31, .inl w) ∧ ∀ t, t < 31 → w t = zp_D Y.1 i t c) ∧ zm_Fr h h' 11 91 := by
  intro k
  induction k with
  | zero =>
    intro a h ha hK hD
    have : a = 4 := by omega
    subst this
    refine ⟨h, ?_, hK, hD, zFr_rf _ _ _⟩
    rw [zb120_2, if_pos (by decide), zm_nx, zb120_55]
  | succ k ih =>
    intro a h ha hK hD
    have k0 := hK.1
    obtain ⟨kV, kO, kd⟩ := hK.2.1
    have i5 : i < 5 := Nat.lt_of_lt_of_le hi kO.1
    obtain ⟨h1, t1, t2, t3, t4⟩ := zk_trial hK
    obtain ⟨gb, c, s1, s2, s3, s4, s5, s6⟩ := zV_sf t2 hi
    obtain ⟨ad0, Q0, -, -, u1, u2, u3, u4⟩ := zV_row hK.2.2.1.1.choose_spec
    obtain ⟨ad1, Q1, -, -, y1, y2, y3, y4⟩ := zV_row t2
    obtain ⟨f, ef⟩ : ∃ f : zf_T, f = (nI a, (Y.1.2.1 i).2.1, (Y.1.2.1 i).2.2) := ⟨_, rfl⟩
    have V2 := s6 (zm_s h1 c (zf_c f)) (fun b _ _ hb => zg_sn hb) f zg_ss
    have F2 : zm_Fr h1 (zm_s h1 c (zf_c f)) 11 21 := zFr_s (by omega) (by omega)
    have K2 := zk_tr t3 V2 F2
    obtain ⟨ad2, Q2, -, -, w1, -⟩ := zV_row V2
    obtain ⟨-, -, -, -, ⟨gd, z1, z2⟩, z3⟩ := K2.2.2.1
    obtain ⟨w, hw⟩ := z3 a (by omega)
    obtain ⟨h3, g3, r1, ⟨P', r2⟩, r3, r4, r5, r6⟩ := qv_fores (q := 87 + a) (by omega) (by show Y.1.2.2.2.2 + 31 < _; omega) V2 hw
    have F3 : zm_Fr (zm_s h1 c (zf_c f)) h3 11 91 := ⟨r5.1, r5.2, fun b hb => r6 b (by omega) (by omega)⟩
    have K3 : zk_K h3 Y := by
      refine zk_scr K2 ?_ F3
      obtain ⟨-, ⟨ff, b⟩, ⟨g, c1, c2⟩, d, ⟨g2, e1, e2⟩, kk⟩ := K2.2.2.1
      refine ⟨⟨P', r2⟩, ⟨ff, (r6 21 (by omega) (by omega)).trans b⟩, ⟨g, (r6 22 (by omega) (by omega)).trans c1, c2⟩, fun j hj => ?_, ⟨g2, (r6 86 (by omega) (by omega)).trans e1, e2⟩, fun j hj => ?_⟩
      · obtain ⟨ad, n, v, hW⟩ := d j hj
        exact ⟨ad, n, v, zr_keep hW fun b h1 h2 => r6 b (by omega) (by omega)⟩
      · by_cases q : j = a
        · subst q
          exact ⟨g3, r3⟩
        · obtain ⟨w, hw⟩ := kk j hj
          exact ⟨w, (r6 _ (by omega) (by omega)).trans hw⟩
    have D3 : ∀ c, c < a + 1 → ∃ w, zm_g h3 (87 + c) = .inl (0, 31, .inl w) ∧ ∀ t, t < 31 → w t = zp_D Y.1 i t c := fun c' hc => by
      by_cases q : c' = a
      · subst q
        refine ⟨g3, r3, fun t ht => ?_⟩
        rw [r4 t ht, ef]
        rfl
      · obtain ⟨w, e1, e2⟩ := hD c' (by omega)
        refine ⟨w, ?_, e2⟩
        rw [r6 _ (by omega) (by omega), F2.2.2 _ (by omega), t4.2.2 _ (by omega)]
        exact e1
    obtain ⟨h', d1, d2, d3, d4⟩ := ih (a + 1) h3 (by omega) K3 D3
    have hlt : ¬ (3 : Int32) < nI a := nI_nlt (a := 3) (by omega) (by decide)
    refine ⟨h', ?_, d2, d3, zFr_tr (zFr_tr (zFr_mn t4 (by omega) (by omega)) (zFr_mn F2 (by omega) (by omega))) (zFr_tr F3 d4)⟩
    rw [zb120_2, if_neg hlt, zm_nx, zb120_7]
    simp only [k0, zkr1, zkr0, u1, zq_rc_o, t1, zq_bv_o, t3.1, y1, zgr_1_0, y2, zgr_2_0, s1, zq_ql_o i5 (show (5 : Nat) < 2 ^ 31 by decide) s2, s3, zpf_0, ← ef, K2.1, zkr4, z1, zq_ql_o (show a < 4 by omega) (show (4 : Nat) < 2 ^ 31 by decide) (z2 a (by omega)), w1, r1, nI_1, zm_nx]
    exact d1
theorem zx_bitF {F b : Nat} (hF : F < 16) (hb : b < 4) : (¬ (nI F >>> (nI b &&& 31)) &&& (1 : Int32) = 1) ↔ ¬ zx_bt F b = true := by
  rw [zx_bit (by omega) (by omega)]
  unfold zx_bt
  have : F / 2 ^ b % 2 = 0 ∨ F / 2 ^ b % 2 = 1 := by omega
  rcases this with e | e
  · rw [e]; decide
  · rw [e]; decide
theorem zx_cn_le {F : Nat} {e : Nat → Bool} : ∀ k b c, zx_cn F e k b c ≤ c + k
  | 0, _, c => by show c ≤ c + 0; omega
  | k + 1, b, c => by
    unfold zx_cn
    by_cases z : zx_bt F b = true ∧ e b = true
    · rw [if_pos z]
      have := zx_cn_le (F := F) (e := e) k (b + 1) (c + 1)
      omega
    · rw [if_neg z]
      have := zx_cn_le (F := F) (e := e) k (b + 1) c
      omega
theorem qc_alk_i {F n m a : Nat} (hF : F < 16) (hn : n < 31) (ha : a < 4) (hK : zk_K h Y) (hD : ∀ c, c < 4 → ∃ w, zm_g h (87 + c) = .inl (0, 31, .inl w) ∧ ∀ t, t < 31 → w t = zp_D Y.1 i t c) : ∀ (k b c : Nat), b + k = 4 → zm_den 1 121 17 [.ref 0, .int (nI F), .int (nI n), .int (nI m), .int (nI a), .int (nI c), .int (nI b)] [] h = zm_den 1 121 63 [.ref 0, .int (nI F), .int (nI n), .int (nI m), .int (nI a), .int (nI (zx_cn F (fun b => decide (zp_D Y.1 i n a = zp_D Y.1 i n b)) k b c)), .int (nI 4)] [] h := by
  have k0 := hK.1
  obtain ⟨gd, z1, z2⟩ := hK.2.2.1.2.2.2.2.1
  intro k
  induction k with
  | zero =>
    intro b c hb
    have : b = 4 := by omega
    subst this
    rw [zb121_17, if_pos (by decide), zm_nx]
    rfl
  | succ k ih =>
    intro b c hb
    have hlt : ¬ (3 : Int32) < nI b := nI_nlt (a := 3) (by omega) (by decide)
    obtain ⟨w1, d1, d2⟩ := hD a ha
    obtain ⟨w2, d3, d4⟩ := hD b (by omega)
    rw [zb121_17, if_neg hlt, zm_nx, zb121_23]
    unfold zx_cn
    by_cases y : zx_bt F b = true
    · rw [if_neg (fun q => (zx_bitF hF (by omega)).mp q y), zm_nx, zb121_33]
      simp only [k0, zkr4, z1, zq_ql_o ha (show (4 : Nat) < 2 ^ 31 by decide) (z2 a ha), zq_ql_o (show b < 4 by omega) (show (4 : Nat) < 2 ^ 31 by decide) (z2 b (by omega)), d1, d3, zq_al_o hn (show (31 : Nat) < 2 ^ 31 by decide), d2 n hn, d4 n hn, zm_nx]
      by_cases x : zp_D Y.1 i n a = zp_D Y.1 i n b
      · rw [if_neg (not_not_intro x), zb121_54, zm_nx, zb121_57, zm_nx, nI_1, nI_1, if_pos ⟨y, decide_eq_true x⟩]
        exact ih (b + 1) (c + 1) (by omega)
      · rw [if_pos x, zb121_57, zm_nx, nI_1, if_neg (fun q => x (of_decide_eq_true q.2))]
        exact ih (b + 1) c (by omega)
    · rw [if_pos ((zx_bitF hF (by omega)).mpr y), zm_nx, zb121_57, zm_nx, nI_1, if_neg (fun q => y q.1)]
      exact ih (b + 1) c (by omega)
theorem qc_alk_o {F n : Nat} (hF : F < 16) (hn : n < 31) (hK : zk_K h Y) (hD : ∀ c, c < 4 → ∃ w, zm_g h (87 + c) = .inl (0, 31, .inl w) ∧ ∀ t, t < 31 → w t = zp_D Y.1 i t c) : ∀ (k a m : Nat) (v5 v6 : Value), a + k = 4 → m ≤ 4 → zm_den 1 121 5 [.ref 0, .int (nI F), .int (nI n), .int (nI m), .int (nI a), v5, v6] [] h = some (some (.int (nI (zx_mc F (fun a b => decide (zp_D Y.1 i n a = zp_D Y.1 i n b)) k a m))), h) := by
  intro k
  induction k with
  | zero =>
    intro a m v5 v6 ha hm
    have : a = 4 := by omega
    subst this
    rw [zb121_5, if_pos (by decide), zm_nx, zb121_76]
    rfl
  | succ k ih =>
    intro a m v5 v6 ha hm
    have hlt : ¬ (3 : Int32) < nI a := nI_nlt (a := 3) (by omega) (by decide)
    have L := qc_alk_i (m := m) hF hn (show a < 4 by omega) hK hD 4 0 0 (by omega)
    have L' : zm_den 1 121 17 [.ref 0, .int (nI F), .int (nI n), .int (nI m), .int (nI a), .int (0 : Int32), .int (0 : Int32)] [] h = _ := L
    rw [zb121_5, if_neg hlt, zm_nx, zb121_11, zm_nx, L', zb121_63, zm_nx, nI_1]
    unfold zx_mc
    obtain ⟨c, ec⟩ : ∃ c, c = zx_cn F (fun b => decide (zp_D Y.1 i n a = zp_D Y.1 i n b)) 4 0 0 := ⟨_, rfl⟩
    have hc := zx_cn_le (F := F) (e := fun b => decide (zp_D Y.1 i n a = zp_D Y.1 i n b)) 4 0 0
    rw [← ec] at hc
    simp only [← ec]
    by_cases y : m < c
    · rw [if_pos (nI_lt y (by omega)), if_pos y]
      exact ih (a + 1) c _ _ (by omega) (by omega)
    · rw [if_neg (nI_nlt (by omega) (by omega)), if_neg y]
      exact ih (a + 1) m _ _ (by omega) hm
theorem qc_ask_l {x1 x2 : Int32} {F : Nat} (hF : F < 16) (hK : zk_K h Y) (hD : ∀ c, c < 4 → ∃ w, zm_g h (87 + c) = .inl (0, 31, .inl w) ∧ ∀ t, t < 31 → w t = zp_D Y.1 i t c) : ∀ (k n : Nat) (m b : Int32) (u : Value), n + k = 31 → zm_den 7 96 44 [.ref 0, .int x1, .int x2, .int (nI F), .int m, .int b, .int (nI n), u] [] h = some (some (.int (zx_ch (zp_ask (fun n => nI (zx_mc F (fun a b => decide (zp_D Y.1 i n a = zp_D Y.1 i n b)) 4 0 0)) k n m b).2 (zp_ask (fun n => nI (zx_mc F (fun a b => decide (zp_D Y.1 i n a = zp_D Y.1 i n b)) 4 0 0)) k n m b).1 x2)), h) := by
  intro k
  induction k with
  | zero =>
    intro n m b u hn
    have : n = 31 := by omega
    subst this
    rw [zb96_44, if_pos (by decide), zm_nx, zb96_81]
    simp only [qc_chosen, zq_bi_o, zp_ask]
  | succ k ih =>
    intro n m b u hn
    have hlt : ¬ (30 : Int32) < nI n := nI_nlt (a := 30) (by omega) (by decide)
    obtain ⟨T, eT⟩ : ∃ T, T = nI (zx_mc F (fun a b => decide (zp_D Y.1 i n a = zp_D Y.1 i n b)) 4 0 0) := ⟨_, rfl⟩
    have L : zm_call 121 [.ref 0, .int (nI F), .int (nI n)] h = some (some (.int T), h) := by
      rw [eT, zc121, zm_nx, zb121_0, zm_nx]
      exact qc_alk_o hF (by omega) hK hD 4 0 0 .null .null (by omega) (by omega)
    rw [zb96_44, if_neg hlt, zm_nx, zb96_51]
    simp only [hK.1, zq_rc_o, L, zq_bi_o, zm_nx]
    unfold zp_ask
    simp only [← eT]
    by_cases y : m ≤ T
    · simp only [if_pos y]
      rw [zb96_75, zm_nx, nI_1]
      exact ih (n + 1) m b _ (by omega)
    · simp only [if_neg y]
      rw [zb96_67, zm_nx, zb96_75, zm_nx, nI_1]
      exact ih (n + 1) T (nI n) _ (by omega)
end ZT73
