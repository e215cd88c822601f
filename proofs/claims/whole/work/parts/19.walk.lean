abbrev zm_O : Type := Option (Option Value × zm_H)
def zq_gi (c : va_E) (ci k : Nat) (f : Int32 → zm_O) : zm_O := match c with
  | .inr (c', fs) => if c' = ci then (match fs[k]? with
    | some (.int v) => f v
    | _ => none) else none
  | _ => none
def zq_gr (c : va_E) (ci k : Nat) (f : Nat → zm_O) : zm_O := match c with
  | .inr (c', fs) => if c' = ci then (match fs[k]? with
    | some (.ref v) => f v
    | _ => none) else none
  | _ => none
def zq_pi (c : va_E) (ci k : Nat) (x : Int32) (f : va_E → zm_O) : zm_O := match c with
  | .inr (c', fs) => if c' = ci ∧ k < fs.length then f (.inr (c', fs.set k (.int x))) else none
  | _ => none
def zq_al (c : va_E) (t : Nat) (i : Int32) (f : Int32 → zm_O) : zm_O := match c with
  | .inl (u, m, .inl g) => if u = t ∧ zm_vin i m = true then f (g i.toNatClampNeg) else none
  | _ => none
def zq_as (c : va_E) (t : Nat) (i x : Int32) (f : va_E → zm_O) : zm_O := match c with
  | .inl (u, m, .inl g) => if u = t ∧ zm_vin i m = true then f (.inl (u, m, .inl (upd g i.toNatClampNeg x))) else none
  | _ => none
def zq_ql (c : va_E) (t : Nat) (i : Int32) (f : Nat → zm_O) : zm_O := match c with
  | .inl (u, m, .inr (.inr (.inr (.inr g)))) => if u = t ∧ zm_vin i m = true then (match g i.toNatClampNeg with
    | some b => f b
    | none => none) else none
  | _ => none
def zq_qs (c d : va_E) (t ci : Nat) (i : Int32) (b : Nat) (f : va_E → zm_O) : zm_O := match c, d with
  | .inl (u, m, .inr (.inr (.inr (.inr g)))), .inr (c', _) => if u = t ∧ zm_vin i m = true ∧ c' = ci then f (.inl (u, m, .inr (.inr (.inr (.inr (va_up g i.toNatClampNeg (some b))))))) else none
  | _, _ => none
def zq_ln (c : va_E) (f : Int32 → zm_O) : zm_O := match c with
  | .inl (t, m, .inl _) => if t = 8 then none else f (nI m)
  | .inl (_, m, .inr (.inr (.inr (.inr _)))) => f (nI m)
  | _ => none
def zq_cp (c d : va_E) (sp dp k : Int32) (f : va_E → zm_O) : zm_O := match c, d with
  | .inl (0, m, .inl g), .inl (0, m', .inl g') => if ¬ sp < 0 ∧ ¬ dp < 0 ∧ ¬ k < 0 ∧ sp.toNatClampNeg + k.toNatClampNeg ≤ m ∧ dp.toNatClampNeg + k.toNatClampNeg ≤ m' then f (.inl (0, m', .inl (va_cpy g g' sp.toNatClampNeg dp.toNatClampNeg k.toNatClampNeg))) else none
  | _, _ => none
def zq_rc (c : va_E) (ci : Nat) (o : zm_O) : zm_O := match c with
  | .inr (c', _) => if c' = ci then o else none
  | _ => none
def zq_bi (o : zm_O) (f : Int32 → zm_H → zm_O) : zm_O := match o with
  | some (some (.int x), h) => f x h
  | _ => none
def zq_bl (o : zm_O) (f : Int64 → zm_H → zm_O) : zm_O := match o with
  | some (some (.long x), h) => f x h
  | _ => none
def zq_bv (o : zm_O) (f : zm_H → zm_O) : zm_O := match o with
  | some (none, h) => f h
  | _ => none
def zq_rz (x : Int32) (h : zm_H) : zm_O := if x = 0 ∨ x = 1 then some (some (.int x), h) else none
def zq_rn (t : FieldType) (x : Int32) (h : zm_H) : zm_O := if narrow t (.int x) = .int x then some (some (.int x), h) else none
def zq_ts (x : Int32) (lo hi : Int) (ts : List Nat) (d : Nat) (f : Nat → zm_O) : zm_O := if x.toInt < lo ∨ hi < x.toInt then f d else f (ts.getD (x.toInt - lo).toNat 0)
def zq_tl (i : Int32) (f : Int32 → zm_O) : zm_O := if zm_vin i 3 = true then f (zm_most i.toNatClampNeg) else none
def zq_sl (c : va_E) (i : Int32) (f : Int32 → zm_O) : zm_O := match c with
  | .inl (8, L, .inl xs) => if zm_vin i L = true then f (xs i.toNatClampNeg) else none
  | _ => none
def zq_sn (c : va_E) (f : Int32 → zm_O) : zm_O := match c with
  | .inl (8, L, .inl _) => f (nI L)
  | _ => none
def zq_st (a : Nat) (o : zm_O) : zm_O := if 1000002 ≤ a ∧ a < 1000007 then o else none
def zq_vl (a : Nat) (f : Int32 → zm_O) : zm_O := if 1000007 ≤ a ∧ a < 1000012 then f (nI (zm_byt.getD (a - 1000007) []).length) else none
def zq_vb (a : Nat) (i : Int32) (f : Int32 → zm_O) : zm_O := if 1000007 ≤ a ∧ a < 1000012 ∧ zm_vin i (zm_byt.getD (a - 1000007) []).length = true then f ((zm_byt.getD (a - 1000007) []).getD i.toNatClampNeg 0) else none
noncomputable def zm_nx (r M pc : Nat) (ls st : List Value) (h : zm_H) : zm_O := zm_den r M pc ls st h
section ZP
variable {r M pc n : Nat} {ls ls' st : List Value} {h : zm_H} {o : zm_O}
theorem zp_end : zm_den r M pc ls st h = zm_nx r M pc ls st h := rfl
theorem zp_k {v : Value} (hs : zm_stp M pc = zi_k v n) (k : zm_den r M n ls (v :: st) h = o) : zm_den r M pc ls st h = o := (zd_go (by rw [hs]; rfl)).trans k
theorem zp_il {i : Nat} {x : Int32} (hs : zm_stp M pc = zi_il i n) (hl : ls[i]? = some (.int x)) (k : zm_den r M n ls (.int x :: st) h = o) : zm_den r M pc ls st h = o := (zd_go (by rw [hs]; simp only [zi_il, hl])).trans k
theorem zp_ll {i : Nat} {x : Int64} (hs : zm_stp M pc = zi_ll i n) (hl : ls[i]? = some (.long x)) (k : zm_den r M n ls (.long x :: st) h = o) : zm_den r M pc ls st h = o := (zd_go (by rw [hs]; simp only [zi_ll, hl])).trans k
theorem zp_al {i x : Nat} (hs : zm_stp M pc = zi_al i n) (hl : ls[i]? = some (.ref x)) (k : zm_den r M n ls (.ref x :: st) h = o) : zm_den r M pc ls st h = o := (zd_go (by rw [hs]; simp only [zi_al, hl])).trans k
theorem zp_is {i : Nat} {x : Int32} (hs : zm_stp M pc = zi_is i n) (hl : ls.set i (.int x) = ls') (k : zm_den r M n ls' st h = o) : zm_den r M pc ls (.int x :: st) h = o := (zd_go (by rw [hs]; simp only [zi_is, hl])).trans k
theorem zp_ls {i : Nat} {x : Int64} (hs : zm_stp M pc = zi_ls i n) (hl : (ls.set i (.long x)).set (i + 1) .null = ls') (k : zm_den r M n ls' st h = o) : zm_den r M pc ls (.long x :: st) h = o := (zd_go (by rw [hs]; simp only [zi_ls, hl])).trans k
theorem zp_as {i x : Nat} (hs : zm_stp M pc = zi_as i n) (hl : ls.set i (.ref x) = ls') (k : zm_den r M n ls' st h = o) : zm_den r M pc ls (.ref x :: st) h = o := (zd_go (by rw [hs]; simp only [zi_as, hl])).trans k
theorem zp_inc {i : Nat} {x v : Int32} (hs : zm_stp M pc = zi_inc i v n) (hl : ls[i]? = some (.int x)) (hl2 : ls.set i (.int (x + v)) = ls') (k : zm_den r M n ls' st h = o) : zm_den r M pc ls st h = o := (zd_go (by rw [hs]; simp only [zi_inc, hl, hl2])).trans k
theorem zp_bin {op : Int32 → Int32 → Int32} {x y : Int32} (hs : zm_stp M pc = zi_bin op n) (k : zm_den r M n ls (.int (op x y) :: st) h = o) : zm_den r M pc ls (.int y :: .int x :: st) h = o := (zd_go (by rw [hs]; rfl)).trans k
theorem zp_div {x y : Int32} (hs : zm_stp M pc = zi_div n) (hy : ¬ y = 0) (k : zm_den r M n ls (.int (x / y) :: st) h = o) : zm_den r M pc ls (.int y :: .int x :: st) h = o := (zd_go (by rw [hs]; simp only [zi_div, if_neg hy])).trans k
theorem zp_rem {x y : Int32} (hs : zm_stp M pc = zi_rem n) (hy : ¬ y = 0) (k : zm_den r M n ls (.int (x - x / y * y) :: st) h = o) : zm_den r M pc ls (.int y :: .int x :: st) h = o := (zd_go (by rw [hs]; simp only [zi_rem, if_neg hy])).trans k
theorem zp_un {op : Int32 → Int32} {x : Int32} (hs : zm_stp M pc = zi_un op n) (k : zm_den r M n ls (.int (op x) :: st) h = o) : zm_den r M pc ls (.int x :: st) h = o := (zd_go (by rw [hs]; rfl)).trans k
theorem zp_m2 {op : Int32 → Int32 → Int32} {x y : Int32} (hs : zm_stp M pc = zi_m2 op n) (hm : zm_sm st ≤ 8) (k : zm_den r M n ls (.int (op x y) :: st) h = o) : zm_den r M pc ls (.int y :: .int x :: st) h = o := (zd_go (by rw [hs]; simp only [zi_m2, if_pos hm])).trans k
theorem zp_m1 {op : Int32 → Int32} {x : Int32} (hs : zm_stp M pc = zi_m1 op n) (hm : zm_sm st ≤ 8) (k : zm_den r M n ls (.int (op x) :: st) h = o) : zm_den r M pc ls (.int x :: st) h = o := (zd_go (by rw [hs]; simp only [zi_m1, if_pos hm])).trans k
theorem zp_lbin {op : Int64 → Int64 → Int64} {x y : Int64} (hs : zm_stp M pc = zi_lbin op n) (k : zm_den r M n ls (.long (op x y) :: st) h = o) : zm_den r M pc ls (.long y :: .long x :: st) h = o := (zd_go (by rw [hs]; rfl)).trans k
theorem zp_ldiv {x y : Int64} (hs : zm_stp M pc = zi_ldiv n) (k : zm_den r M n ls (.long (x / y) :: st) h = o) : zm_den r M pc ls (.long y :: .long x :: st) h = if y = 0 then none else o := by
  by_cases hy : y = 0
  · rw [if_pos hy]; exact zd_none (by rw [hs]; simp only [zi_ldiv, if_pos hy])
  · rw [if_neg hy]; exact (zd_go (by rw [hs]; simp only [zi_ldiv, if_neg hy])).trans k
theorem zp_lrem {x y : Int64} (hs : zm_stp M pc = zi_lrem n) (k : zm_den r M n ls (.long (x - x / y * y) :: st) h = o) : zm_den r M pc ls (.long y :: .long x :: st) h = if y = 0 then none else o := by
  by_cases hy : y = 0
  · rw [if_pos hy]; exact zd_none (by rw [hs]; simp only [zi_lrem, if_pos hy])
  · rw [if_neg hy]; exact (zd_go (by rw [hs]; simp only [zi_lrem, if_neg hy])).trans k
theorem zp_i2l {x : Int32} (hs : zm_stp M pc = zi_i2l n) (k : zm_den r M n ls (.long x.toInt64 :: st) h = o) : zm_den r M pc ls (.int x :: st) h = o := (zd_go (by rw [hs]; rfl)).trans k
theorem zp_lcmp {x y : Int64} (hs : zm_stp M pc = zi_lcmp n) (k : zm_den r M n ls (.int (lg_cmp x y) :: st) h = o) : zm_den r M pc ls (.long y :: .long x :: st) h = o := (zd_go (by rw [hs]; rfl)).trans k
theorem zp_pop {x : Int32} (hs : zm_stp M pc = zi_pop n) (k : zm_den r M n ls st h = o) : zm_den r M pc ls (.int x :: st) h = o := (zd_go (by rw [hs]; rfl)).trans k
theorem zp_dupr {x : Nat} (hs : zm_stp M pc = zi_dup n) (k : zm_den r M n ls (.ref x :: .ref x :: st) h = o) : zm_den r M pc ls (.ref x :: st) h = o := (zd_go (by rw [hs]; rfl)).trans k
theorem zp_dupi {x : Int32} (hs : zm_stp M pc = zi_dup n) (k : zm_den r M n ls (.int x :: .int x :: st) h = o) : zm_den r M pc ls (.int x :: st) h = o := (zd_go (by rw [hs]; rfl)).trans k
theorem zp_dup2 {x : Int32} {a : Nat} (hs : zm_stp M pc = zi_dup2 n) (k : zm_den r M n ls (.int x :: .ref a :: .int x :: .ref a :: st) h = o) : zm_den r M pc ls (.int x :: .ref a :: st) h = o := (zd_go (by rw [hs]; rfl)).trans k
theorem zp_b1 {c : Int32 → Prop} [DecidablePred c] {x : Int32} {t : Nat} (hs : zm_stp M pc = zi_b1 c t n) : zm_den r M pc ls (.int x :: st) h = if c x then zm_nx r M t ls st h else zm_nx r M n ls st h := by
  refine (zd_go (by rw [hs]; rfl)).trans ?_
  by_cases hc : c x
  · rw [if_pos hc, if_pos hc]; rfl
  · rw [if_neg hc, if_neg hc]; rfl
theorem zp_b2 {c : Int32 → Int32 → Prop} [∀ x, DecidablePred (c x)] {x y : Int32} {t : Nat} (hs : zm_stp M pc = zi_b2 c t n) : zm_den r M pc ls (.int y :: .int x :: st) h = if c x y then zm_nx r M t ls st h else zm_nx r M n ls st h := by
  refine (zd_go (by rw [hs]; rfl)).trans ?_
  by_cases hc : c x y
  · rw [if_pos hc, if_pos hc]; rfl
  · rw [if_neg hc, if_neg hc]; rfl
theorem zp_go {t : Nat} (hs : zm_stp M pc = zi_go t) (k : zm_den r M t ls st h = o) : zm_den r M pc ls st h = o := (zd_go (by rw [hs]; rfl)).trans k
theorem zp_ts {lo hi : Int} {ts : List Nat} {d : Nat} {x : Int32} (hs : zm_stp M pc = zi_ts lo hi ts d) : zm_den r M pc ls (.int x :: st) h = zq_ts x lo hi ts d (fun t => zm_nx r M t ls st h) := by
  unfold zq_ts
  by_cases hc : x.toInt < lo ∨ hi < x.toInt
  · rw [if_pos hc]; exact (zd_go (by rw [hs]; simp only [zi_ts, if_pos hc])).trans rfl
  · rw [if_neg hc]; exact (zd_go (by rw [hs]; simp only [zi_ts, if_neg hc])).trans rfl
theorem zp_gi {a ci k : Nat} {f : Int32 → zm_O} (hs : zm_stp M pc = zi_gi ci k n) (hf : ∀ v, zm_den r M n ls (.int v :: st) h = f v) : zm_den r M pc ls (.ref a :: st) h = zq_gi (zm_g h a) ci k f := by
  cases hg : zm_g h a with
  | inl q => exact zd_none (by rw [hs]; simp only [zi_gi, hg])
  | inr q =>
    obtain ⟨c, fs⟩ := q
    unfold zq_gi
    by_cases hc : c = ci
    · simp only [hc, if_true]
      cases hv : fs[k]? with
      | none => exact zd_none (by rw [hs]; simp only [zi_gi, hg, hc, if_true, hv])
      | some v =>
        cases v with
        | int v => exact (zd_go (by rw [hs]; simp only [zi_gi, hg, hc, if_true, hv])).trans (hf v)
        | _ => exact zd_none (by rw [hs]; simp only [zi_gi, hg, hc, if_true, hv])
    · simp only [hc, if_false]
      exact zd_none (by rw [hs]; simp only [zi_gi, hg, hc, if_false])
theorem zp_gr {a ci k : Nat} {f : Nat → zm_O} (hs : zm_stp M pc = zi_gr ci k n) (hf : ∀ v, zm_den r M n ls (.ref v :: st) h = f v) : zm_den r M pc ls (.ref a :: st) h = zq_gr (zm_g h a) ci k f := by
  cases hg : zm_g h a with
  | inl q => exact zd_none (by rw [hs]; simp only [zi_gr, hg])
  | inr q =>
    obtain ⟨c, fs⟩ := q
    unfold zq_gr
    by_cases hc : c = ci
    · simp only [hc, if_true]
      cases hv : fs[k]? with
      | none => exact zd_none (by rw [hs]; simp only [zi_gr, hg, hc, if_true, hv])
      | some v =>
        cases v with
        | ref v => exact (zd_go (by rw [hs]; simp only [zi_gr, hg, hc, if_true, hv])).trans (hf v)
        | _ => exact zd_none (by rw [hs]; simp only [zi_gr, hg, hc, if_true, hv])
    · simp only [hc, if_false]
      exact zd_none (by rw [hs]; simp only [zi_gr, hg, hc, if_false])
theorem zp_pf {a ci k : Nat} {x : Int32} {f : va_E → zm_O} (hs : zm_stp M pc = zi_pf ci k n) (hf : ∀ c, zm_den r M n ls st (zm_s h a c) = f c) : zm_den r M pc ls (.int x :: .ref a :: st) h = zq_pi (zm_g h a) ci k x f := by
  cases hg : zm_g h a with
  | inl q => exact zd_none (by rw [hs]; simp only [zi_pf, hg])
  | inr q =>
    obtain ⟨c, fs⟩ := q
    unfold zq_pi
    by_cases hc : c = ci ∧ k < fs.length
    · simp only [if_pos hc]
      exact (zd_go (by rw [hs]; simp only [zi_pf, hg, if_pos hc])).trans (hf _)
    · simp only [if_neg hc]
      exact zd_none (by rw [hs]; simp only [zi_pf, hg, if_neg hc])
theorem zp_ald {a t : Nat} {i : Int32} {f : Int32 → zm_O} (hs : zm_stp M pc = zi_ald t n) (hf : ∀ v, zm_den r M n ls (.int v :: st) h = f v) : zm_den r M pc ls (.int i :: .ref a :: st) h = zq_al (zm_g h a) t i f := by
  cases hg : zm_g h a with
  | inr q => exact zd_none (by rw [hs]; simp only [zi_ald, hg])
  | inl q =>
    obtain ⟨u, m, g⟩ := q
    cases g with
    | inr g => exact zd_none (by rw [hs]; simp only [zi_ald, hg])
    | inl g =>
      unfold zq_al
      by_cases hc : u = t ∧ zm_vin i m = true
      · simp only [if_pos hc]
        exact (zd_go (by rw [hs]; simp only [zi_ald, hg, if_pos hc])).trans (hf _)
      · simp only [if_neg hc]
        exact zd_none (by rw [hs]; simp only [zi_ald, hg, if_neg hc])
theorem zp_ast {a t : Nat} {nar : Int32 → Int32} {i x : Int32} {f : va_E → zm_O} (hs : zm_stp M pc = zi_ast t nar n) (hf : ∀ c, zm_den r M n ls st (zm_s h a c) = f c) : zm_den r M pc ls (.int x :: .int i :: .ref a :: st) h = zq_as (zm_g h a) t i (nar x) f := by
  cases hg : zm_g h a with
  | inr q => exact zd_none (by rw [hs]; simp only [zi_ast, hg])
  | inl q =>
    obtain ⟨u, m, g⟩ := q
    cases g with
    | inr g => exact zd_none (by rw [hs]; simp only [zi_ast, hg])
    | inl g =>
      unfold zq_as
      by_cases hc : u = t ∧ zm_vin i m = true
      · simp only [if_pos hc]
        exact (zd_go (by rw [hs]; simp only [zi_ast, hg, if_pos hc])).trans (hf _)
      · simp only [if_neg hc]
        exact zd_none (by rw [hs]; simp only [zi_ast, hg, if_neg hc])
theorem zp_qld {a t : Nat} {i : Int32} {f : Nat → zm_O} (hs : zm_stp M pc = zi_qld t n) (hf : ∀ v, zm_den r M n ls (.ref v :: st) h = f v) : zm_den r M pc ls (.int i :: .ref a :: st) h = zq_ql (zm_g h a) t i f := by
  match hg : zm_g h a with
  | .inr q => exact zd_none (by rw [hs]; simp only [zi_qld, hg])
  | .inl (u, m, .inl g) => exact zd_none (by rw [hs]; simp only [zi_qld, hg])
  | .inl (u, m, .inr (.inl g)) => exact zd_none (by rw [hs]; simp only [zi_qld, hg])
  | .inl (u, m, .inr (.inr (.inl g))) => exact zd_none (by rw [hs]; simp only [zi_qld, hg])
  | .inl (u, m, .inr (.inr (.inr (.inl g)))) => exact zd_none (by rw [hs]; simp only [zi_qld, hg])
  | .inl (u, m, .inr (.inr (.inr (.inr g)))) =>
    unfold zq_ql
    by_cases hc : u = t ∧ zm_vin i m = true
    · simp only [if_pos hc]
      cases hv : g i.toNatClampNeg with
      | none => exact zd_none (by rw [hs]; simp only [zi_qld, hg, if_pos hc, hv])
      | some b => exact (zd_go (by rw [hs]; simp only [zi_qld, hg, if_pos hc, hv])).trans (hf _)
    · simp only [if_neg hc]
      exact zd_none (by rw [hs]; simp only [zi_qld, hg, if_neg hc])
theorem zp_qst {a b t ci : Nat} {i : Int32} {f : va_E → zm_O} (hs : zm_stp M pc = zi_qst t ci n) (hf : ∀ c, zm_den r M n ls st (zm_s h a c) = f c) : zm_den r M pc ls (.ref b :: .int i :: .ref a :: st) h = zq_qs (zm_g h a) (zm_g h b) t ci i b f := by
  match hg : zm_g h a, hb : zm_g h b with
  | .inr q, _ => exact zd_none (by rw [hs]; simp only [zi_qst, hg])
  | .inl (u, m, .inl g), _ => exact zd_none (by rw [hs]; simp only [zi_qst, hg])
  | .inl (u, m, .inr (.inl g)), _ => exact zd_none (by rw [hs]; simp only [zi_qst, hg])
  | .inl (u, m, .inr (.inr (.inl g))), _ => exact zd_none (by rw [hs]; simp only [zi_qst, hg])
  | .inl (u, m, .inr (.inr (.inr (.inl g)))), _ => exact zd_none (by rw [hs]; simp only [zi_qst, hg])
  | .inl (u, m, .inr (.inr (.inr (.inr g)))), .inl q => exact zd_none (by rw [hs]; simp only [zi_qst, hg, hb])
  | .inl (u, m, .inr (.inr (.inr (.inr g)))), .inr (c', q) =>
    unfold zq_qs
    by_cases hc : u = t ∧ zm_vin i m = true ∧ c' = ci
    · simp only [if_pos hc]
      exact (zd_go (by rw [hs]; simp only [zi_qst, hg, hb, if_pos hc])).trans (hf _)
    · simp only [if_neg hc]
      exact zd_none (by rw [hs]; simp only [zi_qst, hg, hb, if_neg hc])
theorem zp_len {a : Nat} {f : Int32 → zm_O} (hs : zm_stp M pc = zi_len n) (hf : ∀ v, zm_den r M n ls (.int v :: st) h = f v) : zm_den r M pc ls (.ref a :: st) h = zq_ln (zm_g h a) f := by
  match hg : zm_g h a with
  | .inr q => exact zd_none (by rw [hs]; simp only [zi_len, hg])
  | .inl (u, m, .inl g) =>
    unfold zq_ln
    by_cases hc : u = 8
    · simp only [if_pos hc]
      exact zd_none (by rw [hs]; simp only [zi_len, hg, if_pos hc])
    · simp only [if_neg hc]
      exact (zd_go (by rw [hs]; simp only [zi_len, hg, if_neg hc])).trans (hf _)
  | .inl (u, m, .inr (.inl g)) => exact zd_none (by rw [hs]; simp only [zi_len, hg])
  | .inl (u, m, .inr (.inr (.inl g))) => exact zd_none (by rw [hs]; simp only [zi_len, hg])
  | .inl (u, m, .inr (.inr (.inr (.inl g)))) => exact zd_none (by rw [hs]; simp only [zi_len, hg])
  | .inl (u, m, .inr (.inr (.inr (.inr g)))) => exact (zd_go (by rw [hs]; simp only [zi_len, hg])).trans (hf _)
theorem zp_cpy {a b : Nat} {k dp sp : Int32} {f : va_E → zm_O} (hs : zm_stp M pc = zi_cpy n) (hm : zm_sm st ≤ 8) (hf : ∀ c, zm_den r M n ls st (zm_s h b c) = f c) : zm_den r M pc ls (.int k :: .int dp :: .ref b :: .int sp :: .ref a :: st) h = zq_cp (zm_g h a) (zm_g h b) sp dp k f := by
  unfold zq_cp
  split
  · rename_i m g m' g' hg hb
    by_cases hc : ¬ sp < 0 ∧ ¬ dp < 0 ∧ ¬ k < 0 ∧ sp.toNatClampNeg + k.toNatClampNeg ≤ m ∧ dp.toNatClampNeg + k.toNatClampNeg ≤ m'
    · rw [if_pos hc]
      exact (zd_go (by rw [hs]; simp only [zi_cpy, hg, hb]; rw [if_pos ⟨hc.1, hc.2.1, hc.2.2.1, hc.2.2.2.1, hc.2.2.2.2, hm⟩])).trans (hf _)
    · rw [if_neg hc]
      exact zd_none (by rw [hs]; simp only [zi_cpy, hg, hb]; rw [if_neg (fun q => hc ⟨q.1, q.2.1, q.2.2.1, q.2.2.2.1, q.2.2.2.2.1⟩)])
  · rename_i hx
    refine zd_none ?_
    rw [hs]
    simp only [zi_cpy]
theorem zp_csi {M' k : Nat} {as args rest : List Value} {f : Int32 → zm_H → zm_O} (hs : zm_stp M pc = zi_cs M' k n 1) (ht : zm_tk k st = some (as, rest)) (hm : zm_sm rest ≤ 8) (ha : as.reverse = args) (hr : zm_rk M' args < r) (hf : ∀ x h', zm_den r M n ls (.int x :: rest) h' = f x h') : zm_den r M pc ls st h = zq_bi (zm_call M' args h) f := by
  subst ha
  refine (zd_call (by rw [hs]; simp only [zi_cs, ht, if_pos hm]; rfl) hr).trans ?_
  unfold zm_bd zq_bi
  match zm_call M' as.reverse h with
  | none => rfl
  | some (none, _) => rfl
  | some (some (.int x), h') => exact hf x h'
  | some (some (.long _), _) => rfl
  | some (some (.float _), _) => rfl
  | some (some (.double _), _) => rfl
  | some (some .null, _) => rfl
  | some (some (.ref _), _) => rfl
  | some (some (.retAddr _), _) => rfl
theorem zp_csl {M' k : Nat} {as args rest : List Value} {f : Int64 → zm_H → zm_O} (hs : zm_stp M pc = zi_cs M' k n 2) (ht : zm_tk k st = some (as, rest)) (hm : zm_sm rest ≤ 8) (ha : as.reverse = args) (hr : zm_rk M' args < r) (hf : ∀ x h', zm_den r M n ls (.long x :: rest) h' = f x h') : zm_den r M pc ls st h = zq_bl (zm_call M' args h) f := by
  subst ha
  refine (zd_call (by rw [hs]; simp only [zi_cs, ht, if_pos hm]; rfl) hr).trans ?_
  unfold zm_bd zq_bl
  match zm_call M' as.reverse h with
  | none => rfl
  | some (none, _) => rfl
  | some (some (.long x), h') => exact hf x h'
  | some (some (.int _), _) => rfl
  | some (some (.float _), _) => rfl
  | some (some (.double _), _) => rfl
  | some (some .null, _) => rfl
  | some (some (.ref _), _) => rfl
  | some (some (.retAddr _), _) => rfl
theorem zp_csv {M' k : Nat} {as args rest : List Value} {f : zm_H → zm_O} (hs : zm_stp M pc = zi_cs M' k n 0) (ht : zm_tk k st = some (as, rest)) (hm : zm_sm rest ≤ 8) (ha : as.reverse = args) (hr : zm_rk M' args < r) (hf : ∀ h', zm_den r M n ls rest h' = f h') : zm_den r M pc ls st h = zq_bv (zm_call M' args h) f := by
  subst ha
  refine (zd_call (by rw [hs]; simp only [zi_cs, ht, if_pos hm]; rfl) hr).trans ?_
  unfold zm_bd zq_bv
  match zm_call M' as.reverse h with
  | none => rfl
  | some (none, h') => exact hf h'
  | some (some v, _) => cases v <;> rfl
theorem zp_cv {M' k ci kd a : Nat} {as args rest : List Value} (hs : zm_stp M pc = zi_cv M' k ci n kd) (ht : zm_tk k st = some (as, .ref a :: rest)) (hm : zm_sm rest ≤ 8) (ha : .ref a :: as.reverse = args) (hr : zm_rk M' args < r) (hf : zm_bd kd (zm_call M' args h) (fun us h' => zm_den r M n ls (us ++ rest) h') = o) : zm_den r M pc ls st h = zq_rc (zm_g h a) ci o := by
  subst ha
  unfold zq_rc
  match hg : zm_g h a with
  | .inl q => exact zd_none (by rw [hs]; simp only [zi_cv, ht, hg])
  | .inr (c', q) =>
    by_cases hc : c' = ci
    · simp only [if_pos hc]
      exact (zd_call (by rw [hs]; simp only [zi_cv, ht, hg, if_pos (And.intro hc hm)]) hr).trans hf
    · simp only [if_neg hc]
      exact zd_none (by rw [hs]; simp only [zi_cv, ht, hg, if_neg (fun q : c' = ci ∧ _ => hc q.1)])
theorem zp_bdi {c : zm_O} {rest : List Value} {f : Int32 → zm_H → zm_O} (hf : ∀ x h', zm_den r M n ls (.int x :: rest) h' = f x h') : zm_bd 1 c (fun us h' => zm_den r M n ls (us ++ rest) h') = zq_bi c f := by
  unfold zm_bd zq_bi
  match c with
  | none => rfl
  | some (none, _) => rfl
  | some (some (.int x), h') => exact hf x h'
  | some (some (.long _), _) => rfl
  | some (some (.float _), _) => rfl
  | some (some (.double _), _) => rfl
  | some (some .null, _) => rfl
  | some (some (.ref _), _) => rfl
  | some (some (.retAddr _), _) => rfl
theorem zp_bdl {c : zm_O} {rest : List Value} {f : Int64 → zm_H → zm_O} (hf : ∀ x h', zm_den r M n ls (.long x :: rest) h' = f x h') : zm_bd 2 c (fun us h' => zm_den r M n ls (us ++ rest) h') = zq_bl c f := by
  unfold zm_bd zq_bl
  match c with
  | none => rfl
  | some (none, _) => rfl
  | some (some (.long x), h') => exact hf x h'
  | some (some (.int _), _) => rfl
  | some (some (.float _), _) => rfl
  | some (some (.double _), _) => rfl
  | some (some .null, _) => rfl
  | some (some (.ref _), _) => rfl
  | some (some (.retAddr _), _) => rfl
theorem zp_bdv {c : zm_O} {rest : List Value} {f : zm_H → zm_O} (hf : ∀ h', zm_den r M n ls rest h' = f h') : zm_bd 0 c (fun us h' => zm_den r M n ls (us ++ rest) h') = zq_bv c f := by
  unfold zm_bd zq_bv
  match c with
  | none => rfl
  | some (none, h') => exact hf h'
  | some (some v, _) => cases v <;> rfl
theorem zp_cw {M' k kd a : Nat} {as args rest : List Value} (hs : zm_stp M pc = zi_cw M' k n kd) (ht : zm_tk k st = some (as, .ref a :: rest)) (hm : zm_sm rest ≤ 8) (ha : .ref a :: as.reverse = args) (hr : zm_rk M' args < r) (hf : zm_bd kd (zm_call M' args h) (fun us h' => zm_den r M n ls (us ++ rest) h') = o) : zm_den r M pc ls st h = zq_st a o := by
  subst ha
  unfold zq_st
  by_cases hc : 1000002 ≤ a ∧ a < 1000007
  · simp only [if_pos hc]
    exact (zd_call (by rw [hs]; simp only [zi_cw, ht]; rw [if_pos ⟨hc.1, hc.2, hm⟩]) hr).trans hf
  · simp only [if_neg hc]
    exact zd_none (by rw [hs]; simp only [zi_cw, ht]; rw [if_neg (fun q => hc ⟨q.1, q.2.1⟩)])
theorem zp_ri {x : Int32} (hs : zm_stp M pc = zi_ri) : zm_den r M pc ls [.int x] h = some (some (.int x), h) := zd_ret (by rw [hs]; rfl)
theorem zp_rl {x : Int64} (hs : zm_stp M pc = zi_rl) : zm_den r M pc ls [.long x] h = some (some (.long x), h) := zd_ret (by rw [hs]; rfl)
theorem zp_rv (hs : zm_stp M pc = zi_rv) : zm_den r M pc ls [] h = some (none, h) := zd_ret (by rw [hs]; rfl)
theorem zp_rz {x : Int32} (hs : zm_stp M pc = zi_rz) : zm_den r M pc ls [.int x] h = zq_rz x h := by
  unfold zq_rz
  by_cases hc : x = 0 ∨ x = 1
  · rw [if_pos hc]; exact zd_ret (by rw [hs]; simp only [zi_rz, if_pos hc])
  · rw [if_neg hc]; exact zd_none (by rw [hs]; simp only [zi_rz, if_neg hc])
theorem zp_rn {x : Int32} {t : FieldType} (hs : zm_stp M pc = zi_rn t) : zm_den r M pc ls [.int x] h = zq_rn t x h := by
  unfold zq_rn
  by_cases hc : narrow t (.int x) = .int x
  · rw [if_pos hc]; exact zd_ret (by rw [hs]; simp only [zi_rn, if_pos hc])
  · rw [if_neg hc]; exact zd_none (by rw [hs]; simp only [zi_rn, if_neg hc])
theorem zp_tld {i : Int32} {f : Int32 → zm_O} (hs : zm_stp M pc = zi_tld n) (hf : ∀ v, zm_den r M n ls (.int v :: st) h = f v) : zm_den r M pc ls (.int i :: .ref 1000001 :: st) h = zq_tl i f := by
  unfold zq_tl
  by_cases hc : zm_vin i 3 = true
  · rw [if_pos hc]; exact (zd_go (by rw [hs]; simp only [zi_tld]; rw [if_pos ⟨trivial, hc⟩])).trans (hf _)
  · rw [if_neg hc]; exact zd_none (by rw [hs]; simp only [zi_tld]; rw [if_neg (fun q => hc q.2)])
theorem zp_sld {i : Int32} {f : Int32 → zm_O} (hs : zm_stp M pc = zi_sld n) (hf : ∀ v, zm_den r M n ls (.int v :: st) h = f v) : zm_den r M pc ls (.int i :: .ref 1000000 :: st) h = zq_sl (zm_g h 1000000) i f := by
  unfold zq_sl
  split
  · rename_i L xs hg
    by_cases hc : zm_vin i L = true
    · rw [if_pos hc]; exact (zd_go (by rw [hs]; simp only [zi_sld, hg]; rw [if_pos ⟨trivial, hc⟩])).trans (hf _)
    · rw [if_neg hc]; exact zd_none (by rw [hs]; simp only [zi_sld, hg]; rw [if_neg (fun q => hc q.2)])
  · rename_i hx
    refine zd_none ?_
    rw [hs]
    simp only [zi_sld]
theorem zp_sln {f : Int32 → zm_O} (hs : zm_stp M pc = zi_sln n) (hf : ∀ v, zm_den r M n ls (.int v :: st) h = f v) : zm_den r M pc ls (.ref 1000000 :: st) h = zq_sn (zm_g h 1000000) f := by
  unfold zq_sn
  split
  · rename_i L xs hg
    exact (zd_go (by rw [hs]; simp only [zi_sln, hg, if_true])).trans (hf _)
  · rename_i hx
    refine zd_none ?_
    rw [hs]
    simp only [zi_sln]
theorem zp_sv {a : Nat} (hs : zm_stp M pc = zi_sv n) (k : zm_den r M n ls (.ref (a + 5) :: st) h = o) : zm_den r M pc ls (.ref a :: st) h = zq_st a o := by
  unfold zq_st
  by_cases hc : 1000002 ≤ a ∧ a < 1000007
  · rw [if_pos hc]; exact (zd_go (by rw [hs]; simp only [zi_sv, if_pos hc])).trans k
  · rw [if_neg hc]; exact zd_none (by rw [hs]; simp only [zi_sv, if_neg hc])
theorem zp_sc {a : Nat} (hs : zm_stp M pc = zi_sc n) (k : zm_den r M n ls (.int 0 :: st) h = o) : zm_den r M pc ls (.ref a :: st) h = zq_st a o := by
  unfold zq_st
  by_cases hc : 1000002 ≤ a ∧ a < 1000007
  · rw [if_pos hc]; exact (zd_go (by rw [hs]; simp only [zi_sc, if_pos hc])).trans k
  · rw [if_neg hc]; exact zd_none (by rw [hs]; simp only [zi_sc, if_neg hc])
theorem zp_vl {a : Nat} {f : Int32 → zm_O} (hs : zm_stp M pc = zi_vl n) (hf : ∀ v, zm_den r M n ls (.int v :: st) h = f v) : zm_den r M pc ls (.ref a :: st) h = zq_vl a f := by
  unfold zq_vl
  by_cases hc : 1000007 ≤ a ∧ a < 1000012
  · rw [if_pos hc]; exact (zd_go (by rw [hs]; simp only [zi_vl, if_pos hc])).trans (hf _)
  · rw [if_neg hc]; exact zd_none (by rw [hs]; simp only [zi_vl, if_neg hc])
theorem zp_vb {a : Nat} {i : Int32} {f : Int32 → zm_O} (hs : zm_stp M pc = zi_vb n) (hf : ∀ v, zm_den r M n ls (.int v :: st) h = f v) : zm_den r M pc ls (.int i :: .ref a :: st) h = zq_vb a i f := by
  unfold zq_vb
  by_cases hc : 1000007 ≤ a ∧ a < 1000012 ∧ zm_vin i (zm_byt.getD (a - 1000007) []).length = true
  · rw [if_pos hc]; exact (zd_go (by rw [hs]; simp only [zi_vb, if_pos hc])).trans (hf _)
  · rw [if_neg hc]; exact zd_none (by rw [hs]; simp only [zi_vb, if_neg hc])
end ZP
