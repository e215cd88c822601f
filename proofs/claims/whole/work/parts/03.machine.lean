abbrev zm_H : Type := Nat × Nat × (Nat → va_E)
def zm_g (h : zm_H) (a : Nat) : va_E := h.2.2 a
def zm_s (h : zm_H) (a : Nat) (c : va_E) : zm_H := (h.1, h.2.1, fun b => if b = a then c else h.2.2 b)
def zm_n (h : zm_H) (k : Nat) (c : va_E) : zm_H := (h.1 + 1, h.2.1 + k, fun b => if b = h.1 then c else h.2.2 b)
def zm_J : va_E := .inr (99, [])
abbrev zm_C : Type := Nat × List Value × List Value × zm_H
abbrev zm_K : Type := Nat × List Value × Nat × Nat × List Value
abbrev zm_R : Type := zm_C ⊕ (Option Value ⊕ zm_K)
abbrev zm_F : Type := List Value → List Value → zm_H → Option zm_R
def zm_cv (sp : Nat → Value) (ws : va_W) : Value → Option Value
  | .ref k => if 1000000 ≤ k then (if k < 1000012 then some (sp (k - 1000000)) else none) else (ws[k]?).map (fun q => .ref q.1)
  | .retAddr k => some (sp k)
  | v => some v
def zm_Vr (sp : Nat → Value) (ws : va_W) : List Value → List Value → Prop
  | [], [] => True
  | v :: st, V :: ST => zm_cv sp ws v = some V ∧ zm_Vr sp ws st ST
  | _, _ => False
def zm_ty : Nat → FieldType
  | 0 => .int
  | 1 => .byte
  | 2 => .boolean
  | 3 => .object "SnowReign$Figure"
  | 4 => .object "SnowReign$Row"
  | 5 => .object "SnowReign$Province"
  | 6 => .object "SnowReign$Sheet"
  | _ => .array .int
def zm_rr (ws : va_W) (f F : Nat → Option Nat) : Prop := ∀ j, match f j with
  | none => F j = none
  | some k => k < 1000000 ∧ ∃ q, ws[k]? = some q ∧ F j = some q.1
def zm_cr (s : State) (sp : Nat → Value) (ws : va_W) (c E : va_E) : Prop := match c, E with
  | .inr o, .inr O => O.1 = o.1 ∧ zm_Vr sp ws o.2 O.2
  | .inl (t, n, .inl f), .inl (cA, n', .inl F) => n' = n ∧ F = f ∧ ArrOfT s cA (zm_ty t) ∧ va_RA s cA (zm_ty t)
  | .inl (t, n, .inr (.inr (.inr (.inr f)))), .inl (cA, n', .inr (.inr (.inr (.inr F)))) => n' = n ∧ zm_rr ws f F ∧ ArrOfT s cA (zm_ty t) ∧ va_RA s cA (zm_ty t)
  | _, _ => False
def zm_Hr (s : State) (sp : Nat → Value) (L : Nat) (xs : Nat → Int32) (ws : va_W) (h : zm_H) : Prop := ws.length = h.1 ∧ h.1 ≤ 1000000 ∧ (∀ a, a < h.1 → ∃ q, ws[a]? = some q ∧ zm_cr s sp ws (h.2.2 a) q.2) ∧ (∀ a, h.1 ≤ a → a ≠ 1000000 → h.2.2 a = zm_J) ∧ h.2.2 1000000 = .inl (8, L, .inl xs)
def zm_Lr (lg : Nat → Bool) (sp : Nat → Value) (ws : va_W) (ls : List Value) (lv : List (Nat × Value)) : Prop := (∀ (i : Nat) (v : Value), ls[i]? = some v → v ≠ .null → ∃ V, zm_cv sp ws v = some V ∧ (i, V) ∈ lv) ∧ ∀ q ∈ lv, q.2.category = 2 → lg q.1 = true
def zm_E (ws ws' : va_W) : Prop := ∀ (k : Nat) (q : Nat × va_E), ws[k]? = some q → ∃ q', ws'[k]? = some q' ∧ q'.1 = q.1
theorem zm_E_refl (ws : va_W) : zm_E ws ws := fun _ q h => ⟨q, h, rfl⟩
theorem zm_E_trans {a b c : va_W} (h1 : zm_E a b) (h2 : zm_E b c) : zm_E a c := fun k q h => by
  obtain ⟨q1, g1, e1⟩ := h1 k q h
  obtain ⟨q2, g2, e2⟩ := h2 k q1 g1
  exact ⟨q2, g2, e2.trans e1⟩
theorem zm_E_app (a b : va_W) : zm_E a (a ++ b) := fun k q h => ⟨q, by rw [List.getElem?_append_left (List.getElem?_eq_some_iff.mp h).1]; exact h, rfl⟩
theorem zm_E_set {ws : va_W} {k a : Nat} {e0 e : va_E} (h : ws[k]? = some (a, e0)) : zm_E ws (ws.set k (a, e)) := fun j q hj => by
  by_cases hjk : j = k
  · subst hjk
    rw [h] at hj
    cases hj
    exact ⟨(a, e), by rw [List.getElem?_set_self (List.getElem?_eq_some_iff.mp h).1], rfl⟩
  · exact ⟨q, by rw [List.getElem?_set_ne (fun z => hjk z.symm)]; exact hj, rfl⟩
theorem zm_cv_E {sp : Nat → Value} {ws ws' : va_W} (h : zm_E ws ws') {v V : Value} (hv : zm_cv sp ws v = some V) : zm_cv sp ws' v = some V := by
  cases v with
  | ref k =>
    unfold zm_cv at hv ⊢
    by_cases hk : 1000000 ≤ k
    · simp only [hk, if_true] at hv ⊢
      exact hv
    · simp only [hk, if_false] at hv ⊢
      obtain ⟨q, h1, h2⟩ := Option.map_eq_some_iff.mp hv
      obtain ⟨q', g1, g2⟩ := h k q h1
      rw [g1, Option.map_some, g2, h2]
  | _ => exact hv
theorem zm_Vr_E {sp : Nat → Value} {ws ws' : va_W} (h : zm_E ws ws') : ∀ {st ST : List Value}, zm_Vr sp ws st ST → zm_Vr sp ws' st ST
  | [], [], _ => trivial
  | _ :: _, _ :: _, hv => ⟨zm_cv_E h hv.1, zm_Vr_E h hv.2⟩
  | [], _ :: _, hv => hv.elim
  | _ :: _, [], hv => hv.elim
theorem zm_rr_E {ws ws' : va_W} (h : zm_E ws ws') {f F : Nat → Option Nat} (hv : zm_rr ws f F) : zm_rr ws' f F := fun j => by
  have := hv j
  cases hf : f j with
  | none => rw [hf] at this; exact this
  | some k =>
    rw [hf] at this
    obtain ⟨h0, q, h1, h2⟩ := this
    obtain ⟨q', g1, g2⟩ := h k q h1
    exact ⟨h0, q', g1, by rw [g2]; exact h2⟩
theorem zm_cr_E {s : State} {sp : Nat → Value} {ws ws' : va_W} (h : zm_E ws ws') {c E : va_E} (hv : zm_cr s sp ws c E) : zm_cr s sp ws' c E := by
  match c, E, hv with
  | .inr o, .inr O, hv => exact ⟨hv.1, zm_Vr_E h hv.2⟩
  | .inl (t, n, .inl f), .inl (cA, n', .inl F), hv => exact hv
  | .inl (t, n, .inr (.inr (.inr (.inr f)))), .inl (cA, n', .inr (.inr (.inr (.inr F)))), hv => exact ⟨hv.1, zm_rr_E h hv.2.1, hv.2.2⟩
theorem zm_cr_moved {s u : State} (hvm : s.vm.Alike u.vm) {sp : Nat → Value} {ws : va_W} {c E : va_E} (hv : zm_cr s sp ws c E) : zm_cr u sp ws c E := by
  match c, E, hv with
  | .inr o, .inr O, hv => exact hv
  | .inl (t, n, .inl f), .inl (cA, n', .inl F), hv => exact ⟨hv.1, hv.2.1, arrOfT_moved hvm hv.2.2.1, hv.2.2.2.moved hvm⟩
  | .inl (t, n, .inr (.inr (.inr (.inr f)))), .inl (cA, n', .inr (.inr (.inr (.inr F)))), hv => exact ⟨hv.1, hv.2.1, arrOfT_moved hvm hv.2.2.1, hv.2.2.2.moved hvm⟩
theorem zm_Hr_moved {s u : State} (hvm : s.vm.Alike u.vm) {sp : Nat → Value} {L : Nat} {xs : Nat → Int32} {ws : va_W} {h : zm_H} (hh : zm_Hr s sp L xs ws h) : zm_Hr u sp L xs ws h :=
  ⟨hh.1, hh.2.1, fun a ha => by obtain ⟨q, h1, h2⟩ := hh.2.2.1 a ha; exact ⟨q, h1, zm_cr_moved hvm h2⟩, hh.2.2.2.1, hh.2.2.2.2⟩
theorem zm_Lr_E {lg : Nat → Bool} {sp : Nat → Value} {ws ws' : va_W} (h : zm_E ws ws') {ls : List Value} {lv : List (Nat × Value)} (hv : zm_Lr lg sp ws ls lv) : zm_Lr lg sp ws' ls lv :=
  ⟨fun i v h1 h2 => by obtain ⟨V, g1, g2⟩ := hv.1 i v h1 h2; exact ⟨V, zm_cv_E h g1, g2⟩, hv.2⟩
theorem zm_Hr_set {s : State} {sp : Nat → Value} {L : Nat} {xs : Nat → Int32} {ws : va_W} {h : zm_H} {a A : Nat} {e0 e c : va_E} (hh : zm_Hr s sp L xs ws h) (ha : ws[a]? = some (A, e0)) (hc : zm_cr s sp ws c e) : zm_Hr s sp L xs (ws.set a (A, e)) (zm_s h a c) := by
  have hE := zm_E_set (e := e) ha
  have hl : a < h.1 := by rw [← hh.1]; exact (List.getElem?_eq_some_iff.mp ha).1
  have hm := hh.2.1
  refine ⟨by rw [List.length_set]; exact hh.1, hh.2.1, fun b hb => ?_, fun b hb hne => ?_, ?_⟩
  · show ∃ q : Nat × va_E, _ ∧ zm_cr s sp _ (if b = a then c else h.2.2 b) q.2
    by_cases hba : b = a
    · subst hba
      rw [if_pos rfl]
      exact ⟨(A, e), by rw [List.getElem?_set_self (List.getElem?_eq_some_iff.mp ha).1], zm_cr_E hE hc⟩
    · rw [if_neg hba]
      obtain ⟨q, h1, h2⟩ := hh.2.2.1 b hb
      exact ⟨q, by rw [List.getElem?_set_ne (fun z => hba z.symm)]; exact h1, zm_cr_E hE h2⟩
  · show (if b = a then c else h.2.2 b) = zm_J
    have hb' : h.1 ≤ b := hb
    rw [if_neg (by omega)]
    exact hh.2.2.2.1 b hb hne
  · show (if 1000000 = a then c else h.2.2 1000000) = _
    rw [if_neg (by omega)]
    exact hh.2.2.2.2
theorem zm_Hr_push {s : State} {sp : Nat → Value} {L : Nat} {xs : Nat → Int32} {ws : va_W} {h : zm_H} {k A : Nat} {e c : va_E} (hh : zm_Hr s sp L xs ws h) (hl : h.1 < 1000000) (hc : zm_cr s sp (ws ++ [(A, e)]) c e) : zm_Hr s sp L xs (ws ++ [(A, e)]) (zm_n h k c) := by
  have hE := zm_E_app ws [(A, e)]
  refine ⟨by simp [zm_n, hh.1], hl, fun b hb => ?_, fun b hb hne => ?_, ?_⟩
  · show ∃ q : Nat × va_E, _ ∧ zm_cr s sp _ (if b = h.1 then c else h.2.2 b) q.2
    by_cases hba : b = h.1
    · subst hba
      rw [if_pos rfl]
      refine ⟨(A, e), ?_, hc⟩
      rw [← hh.1]
      simp
    · rw [if_neg hba]
      have hb' : b < h.1 + 1 := hb
      obtain ⟨q, h1, h2⟩ := hh.2.2.1 b (by omega)
      exact ⟨q, by rw [List.getElem?_append_left (List.getElem?_eq_some_iff.mp h1).1]; exact h1, zm_cr_E hE h2⟩
  · show (if b = h.1 then c else h.2.2 b) = zm_J
    have hb' : h.1 + 1 ≤ b := hb
    rw [if_neg (by omega)]
    exact hh.2.2.2.1 b (by omega) hne
  · show (if 1000000 = h.1 then c else h.2.2 1000000) = _
    rw [if_neg (by omega)]
    exact hh.2.2.2.2
theorem zm_in {s : State} {sp : Nat → Value} {L : Nat} {xs : Nat → Int32} {ws : va_W} {h : zm_H} {a : Nat} {V : Value} (hh : zm_Hr s sp L xs ws h) (hj : zm_g h a ≠ zm_J) (hx : a ≠ 1000000) (hv : zm_cv sp ws (.ref a) = some V) : ∃ A E, V = .ref A ∧ ws[a]? = some (A, E) ∧ zm_cr s sp ws (zm_g h a) E := by
  have ha : a < h.1 := by
    rcases Nat.lt_or_ge a h.1 with q | q
    · exact q
    · exact absurd (hh.2.2.2.1 a q hx) hj
  obtain ⟨q, h1, h2⟩ := hh.2.2.1 a ha
  have h3 := hh.2.1
  unfold zm_cv at hv
  simp only [show ¬ 1000000 ≤ a by omega, if_false, h1, Option.map_some] at hv
  exact ⟨q.1, q.2, (Option.some.inj hv).symm, h1, h2⟩
theorem zm_obj {s : State} {sp : Nat → Value} {L : Nat} {xs : Nat → Int32} {ws : va_W} {h : zm_H} {a ci : Nat} {fs : List Value} {V : Value} (hh : zm_Hr s sp L xs ws h) (hc : ci < 50) (hg : zm_g h a = .inr (ci, fs)) (hv : zm_cv sp ws (.ref a) = some V) : ∃ A FS, V = .ref A ∧ ws[a]? = some (A, .inr (ci, FS)) ∧ zm_Vr sp ws fs FS := by
  obtain ⟨A, E, h1, h2, h3⟩ := zm_in hh (by rw [hg]; intro z; cases z; omega) (fun z => by subst z; have := hh.2.2.2.2.symm.trans hg; cases this) hv
  rw [hg] at h3
  match E, h3 with
  | .inr (c', FS), h3 =>
    obtain ⟨e1, e2⟩ := h3
    have e1 : c' = ci := e1
    subst e1
    exact ⟨A, FS, h1, h2, e2⟩
theorem zm_arr {s : State} {sp : Nat → Value} {L : Nat} {xs : Nat → Int32} {ws : va_W} {h : zm_H} {a t n : Nat} {f : Nat → Int32} {V : Value} (hh : zm_Hr s sp L xs ws h) (ht : t ≠ 8) (hg : zm_g h a = .inl (t, n, .inl f)) (hv : zm_cv sp ws (.ref a) = some V) : ∃ A cA, V = .ref A ∧ ws[a]? = some (A, .inl (cA, n, .inl f)) ∧ ArrOfT s cA (zm_ty t) ∧ va_RA s cA (zm_ty t) := by
  obtain ⟨A, E, h1, h2, h3⟩ := zm_in hh (by rw [hg]; intro z; cases z) (fun z => by subst z; have := hh.2.2.2.2.symm.trans hg; cases this; exact ht rfl) hv
  rw [hg] at h3
  match E, h3 with
  | .inl (cA, n', .inl F), h3 =>
    obtain ⟨e1, e2, e3, e4⟩ := h3
    subst e1
    subst e2
    exact ⟨A, cA, h1, h2, e3, e4⟩
theorem zm_arq {s : State} {sp : Nat → Value} {L : Nat} {xs : Nat → Int32} {ws : va_W} {h : zm_H} {a t n : Nat} {f : Nat → Option Nat} {V : Value} (hh : zm_Hr s sp L xs ws h) (hg : zm_g h a = .inl (t, n, .inr (.inr (.inr (.inr f))))) (hv : zm_cv sp ws (.ref a) = some V) : ∃ A cA F, V = .ref A ∧ ws[a]? = some (A, .inl (cA, n, .inr (.inr (.inr (.inr F))))) ∧ zm_rr ws f F ∧ ArrOfT s cA (zm_ty t) ∧ va_RA s cA (zm_ty t) := by
  obtain ⟨A, E, h1, h2, h3⟩ := zm_in hh (by rw [hg]; intro z; cases z) (fun z => by subst z; have := hh.2.2.2.2.symm.trans hg; cases this) hv
  rw [hg] at h3
  match E, h3 with
  | .inl (cA, n', .inr (.inr (.inr (.inr F)))), h3 =>
    obtain ⟨e1, e2, e3, e4⟩ := h3
    subst e1
    exact ⟨A, cA, F, h1, h2, e2, e3, e4⟩
theorem zm_K1 {D : va_G} {cl : List vw_C} {s : State} (hK : va_K D cl [] s) {cA : ClassId} {ty : FieldType} (h1 : ArrOfT s cA ty) (h2 : va_RA s cA ty) : va_K D cl [(cA, ty)] s := ⟨hK.1, fun k q hq => by
  match k, hq with
  | 0, hq => cases hq; exact ⟨h1, h2⟩
  | k + 1, hq => simp at hq⟩
theorem zm_Vr_len {sp : Nat → Value} {ws : va_W} : ∀ {st ST : List Value}, zm_Vr sp ws st ST → st.length = ST.length
  | [], [], _ => rfl
  | _ :: _, _ :: _, hv => by simp [zm_Vr_len hv.2]
  | [], _ :: _, hv => hv.elim
  | _ :: _, [], hv => hv.elim
theorem zm_Vr_get {sp : Nat → Value} {ws : va_W} : ∀ {st ST : List Value}, zm_Vr sp ws st ST → ∀ {k : Nat} {v : Value}, st[k]? = some v → ∃ V, ST[k]? = some V ∧ zm_cv sp ws v = some V
  | [], [], _, k, v, h => by simp at h
  | a :: st, b :: ST, hv, 0, v, h => by simp at h; subst h; exact ⟨b, by simp, hv.1⟩
  | a :: st, b :: ST, hv, k + 1, v, h => by simpa using zm_Vr_get hv.2 (k := k) (v := v) (by simpa using h)
  | [], _ :: _, hv, _, _, _ => hv.elim
  | _ :: _, [], hv, _, _, _ => hv.elim
theorem zm_Vr_set {sp : Nat → Value} {ws : va_W} : ∀ {st ST : List Value}, zm_Vr sp ws st ST → ∀ (k : Nat) {v V : Value}, zm_cv sp ws v = some V → zm_Vr sp ws (st.set k v) (ST.set k V)
  | [], [], _, k, v, V, h => by simp [zm_Vr]
  | a :: st, b :: ST, hv, 0, v, V, h => ⟨h, hv.2⟩
  | a :: st, b :: ST, hv, k + 1, v, V, h => ⟨hv.1, zm_Vr_set hv.2 k h⟩
  | [], _ :: _, hv, _, _, _, _ => hv.elim
  | _ :: _, [], hv, _, _, _, _ => hv.elim
theorem zm_Vr_app {sp : Nat → Value} {ws : va_W} : ∀ {a b : List Value} {AB : List Value}, zm_Vr sp ws (a ++ b) AB → ∃ A B, AB = A ++ B ∧ zm_Vr sp ws a A ∧ zm_Vr sp ws b B
  | [], b, AB, h => ⟨[], AB, rfl, trivial, h⟩
  | x :: a, b, Y :: AB, h => by
    obtain ⟨A, B, e, h1, h2⟩ := zm_Vr_app (a := a) (b := b) h.2
    exact ⟨Y :: A, B, by rw [e]; rfl, ⟨h.1, h1⟩, h2⟩
  | x :: a, b, [], h => h.elim
theorem zm_Vr_app' {sp : Nat → Value} {ws : va_W} : ∀ {a b A B : List Value}, zm_Vr sp ws a A → zm_Vr sp ws b B → zm_Vr sp ws (a ++ b) (A ++ B)
  | [], b, [], B, _, h => h
  | x :: a, b, Y :: A, B, h1, h2 => ⟨h1.1, zm_Vr_app' h1.2 h2⟩
  | [], _, _ :: _, _, h, _ => h.elim
  | _ :: _, _, [], _, h, _ => h.elim
theorem zm_Vr_rev {sp : Nat → Value} {ws : va_W} : ∀ {a A : List Value}, zm_Vr sp ws a A → zm_Vr sp ws a.reverse A.reverse
  | [], [], _ => trivial
  | x :: a, Y :: A, h => by rw [List.reverse_cons, List.reverse_cons]; exact zm_Vr_app' (zm_Vr_rev h.2) ⟨h.1, trivial⟩
  | [], _ :: _, h => h.elim
  | _ :: _, [], h => h.elim
theorem zm_cv_cat {sp : Nat → Value} {ws : va_W} (hsp : ∀ k, (sp k).category = 1) {v V : Value} (h : zm_cv sp ws v = some V) : V.category = v.category := by
  cases v with
  | ref k =>
    unfold zm_cv at h
    by_cases hk : 1000000 ≤ k
    · simp only [hk, if_true] at h
      by_cases hk2 : k < 1000012
      · rw [if_pos hk2] at h
        rw [← Option.some.inj h, hsp]
        rfl
      · rw [if_neg hk2] at h
        cases h
    · simp only [hk, if_false] at h
      obtain ⟨q, h1, h2⟩ := Option.map_eq_some_iff.mp h
      rw [← h2]
      rfl
  | retAddr k =>
    rw [← Option.some.inj h, hsp]
    rfl
  | _ => cases h; rfl
theorem zm_Vr_cat {sp : Nat → Value} {ws : va_W} (hsp : ∀ k, (sp k).category = 1) : ∀ {a A : List Value}, zm_Vr sp ws a A → (A.map fun v => v.category) = a.map fun v => v.category
  | [], [], _ => rfl
  | x :: a, Y :: A, h => by rw [List.map_cons, List.map_cons, zm_cv_cat hsp h.1, zm_Vr_cat hsp h.2]
  | [], _ :: _, h => h.elim
  | _ :: _, [], h => h.elim
