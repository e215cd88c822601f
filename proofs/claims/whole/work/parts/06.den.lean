def zm_kd : Nat → Option Value → Option (List Value)
  | 0, none => some []
  | 1, some (.int x) => some [.int x]
  | 2, some (.long x) => some [.long x]
  | _, _ => none
def zm_run : Nat → Nat → Nat → Nat → List Value → List Value → zm_H → Option (Option Value × zm_H)
  | 0, _, _, _, _, _, _ => none
  | n + 1, r, M, pc, ls, st, h => match zm_stp M pc ls st h with
    | none => none
    | some (.inl (pc', ls', st', h')) => zm_run n r M pc' ls' st' h'
    | some (.inr (.inl v)) => some (v, h)
    | some (.inr (.inr (M', as, pc', kd, st'))) => if zm_rk M' as < r then (match zm_run n (zm_rk M' as) M' 0 (zm_ent M' as) [] h with
      | none => none
      | some (v, h') => match zm_kd kd v with
        | none => none
        | some us => zm_run n r M pc' ls (us ++ st') h') else none
theorem zm_run_succ : ∀ (n r M pc : Nat) (ls st : List Value) (h : zm_H) (o : Option Value × zm_H), zm_run n r M pc ls st h = some o → zm_run (n + 1) r M pc ls st h = some o := by
  intro n
  induction n with
  | zero => intro r M pc ls st h o hh; cases hh
  | succ n ih =>
    intro r M pc ls st h o hh
    rw [zm_run] at hh ⊢
    cases hs : zm_stp M pc ls st h with
    | none => rw [hs] at hh; cases hh
    | some x =>
      rw [hs] at hh
      match x, hh with
      | .inl (pc', ls', st', h'), hh => exact ih _ _ _ _ _ _ _ hh
      | .inr (.inl v), hh => exact hh
      | .inr (.inr (M', as, pc', kd, st')), hh =>
        dsimp only at hh ⊢
        by_cases hr : zm_rk M' as < r
        · rw [if_pos hr] at hh ⊢
          cases hq : zm_run n (zm_rk M' as) M' 0 (zm_ent M' as) [] h with
          | none => rw [hq] at hh; cases hh
          | some y =>
            rw [hq] at hh
            rw [ih _ _ _ _ _ _ _ hq]
            dsimp only at hh ⊢
            cases hk : zm_kd kd y.1 with
            | none => rw [hk] at hh; cases hh
            | some us => rw [hk] at hh; exact ih _ _ _ _ _ _ _ hh
        · rw [if_neg hr] at hh
          cases hh
theorem zm_run_le {n k r M pc : Nat} {ls st : List Value} {h : zm_H} {o : Option Value × zm_H} (hh : zm_run n r M pc ls st h = some o) (hk : n ≤ k) : zm_run k r M pc ls st h = some o := by
  induction hk with
  | refl => exact hh
  | step _ ih => exact zm_run_succ _ _ _ _ _ _ _ _ ih
noncomputable def zm_den (r M pc : Nat) (ls st : List Value) (h : zm_H) : Option (Option Value × zm_H) :=
  @dite _ (∃ o n, zm_run n r M pc ls st h = some o) (Classical.propDecidable _) (fun hx => some hx.choose) (fun _ => none)
theorem zm_den_iff {r M pc : Nat} {ls st : List Value} {h : zm_H} {o : Option Value × zm_H} : zm_den r M pc ls st h = some o ↔ ∃ n, zm_run n r M pc ls st h = some o := by
  unfold zm_den
  by_cases hx : ∃ o n, zm_run n r M pc ls st h = some o
  · rw [dif_pos hx]
    obtain ⟨n, hn⟩ := hx.choose_spec
    constructor
    · intro e
      exact ⟨n, by rw [← e]; exact hn⟩
    · rintro ⟨k, hk⟩
      have h1 := zm_run_le hn (Nat.le_add_right n k)
      have h2 := zm_run_le hk (Nat.le_add_left k n)
      exact h1.symm.trans h2
  · rw [dif_neg hx]
    constructor
    · intro e; cases e
    · rintro ⟨k, hk⟩; exact absurd ⟨o, k, hk⟩ hx
theorem zm_opt_ext {α : Type} {a b : Option α} (h : ∀ o, a = some o ↔ b = some o) : a = b := by
  cases a with
  | none =>
    cases b with
    | none => rfl
    | some y => exact ((h y).mpr rfl)
  | some x => exact ((h x).mp rfl).symm
noncomputable def zm_call (M : Nat) (as : List Value) (h : zm_H) : Option (Option Value × zm_H) := zm_den (zm_rk M as) M 0 (zm_ent M as) [] h
def zm_bd (kd : Nat) (o : Option (Option Value × zm_H)) (k : List Value → zm_H → Option (Option Value × zm_H)) : Option (Option Value × zm_H) := match o with
  | none => none
  | some (v, h) => match zm_kd kd v with
    | none => none
    | some us => k us h
theorem zd_go {r M pc : Nat} {ls st : List Value} {h : zm_H} {pc' : Nat} {ls' st' : List Value} {h' : zm_H} (hs : zm_stp M pc ls st h = some (.inl (pc', ls', st', h'))) : zm_den r M pc ls st h = zm_den r M pc' ls' st' h' := by
  refine zm_opt_ext fun o => ?_
  rw [zm_den_iff, zm_den_iff]
  constructor
  · rintro ⟨n, hn⟩
    cases n with
    | zero => cases hn
    | succ n => rw [zm_run, hs] at hn; exact ⟨n, hn⟩
  · rintro ⟨n, hn⟩
    exact ⟨n + 1, by rw [zm_run, hs]; exact hn⟩
theorem zd_ret {r M pc : Nat} {ls st : List Value} {h : zm_H} {v : Option Value} (hs : zm_stp M pc ls st h = some (.inr (.inl v))) : zm_den r M pc ls st h = some (v, h) :=
  zm_den_iff.mpr ⟨1, by rw [zm_run, hs]⟩
theorem zd_call {r M pc : Nat} {ls st : List Value} {h : zm_H} {M' pc' kd : Nat} {as st' : List Value} (hs : zm_stp M pc ls st h = some (.inr (.inr (M', as, pc', kd, st')))) (hr : zm_rk M' as < r) : zm_den r M pc ls st h = zm_bd kd (zm_call M' as h) (fun us h' => zm_den r M pc' ls (us ++ st') h') := by
  refine zm_opt_ext fun o => ?_
  rw [zm_den_iff]
  constructor
  · rintro ⟨n, hn⟩
    cases n with
    | zero => cases hn
    | succ n =>
      rw [zm_run, hs] at hn
      dsimp only at hn
      rw [if_pos hr] at hn
      cases hq : zm_run n (zm_rk M' as) M' 0 (zm_ent M' as) [] h with
      | none => rw [hq] at hn; cases hn
      | some y =>
        rw [hq] at hn
        have hc : zm_call M' as h = some y := zm_den_iff.mpr ⟨n, hq⟩
        rw [hc]
        dsimp only [zm_bd] at hn ⊢
        cases hk : zm_kd kd y.1 with
        | none => rw [hk] at hn; cases hn
        | some us => rw [hk] at hn; exact zm_den_iff.mpr ⟨n, hn⟩
  · intro e
    cases hc : zm_call M' as h with
    | none => rw [hc] at e; cases e
    | some y =>
      rw [hc] at e
      obtain ⟨n, hn⟩ := zm_den_iff.mp hc
      dsimp only [zm_bd] at e
      cases hk : zm_kd kd y.1 with
      | none => rw [hk] at e; cases e
      | some us =>
        rw [hk] at e
        obtain ⟨k, hk2⟩ := zm_den_iff.mp e
        refine ⟨n + k + 1, ?_⟩
        rw [zm_run, hs]
        dsimp only
        rw [if_pos hr, zm_run_le hn (Nat.le_add_right n k)]
        dsimp only
        rw [hk]
        exact zm_run_le hk2 (Nat.le_add_left k n)
theorem zd_none {r M pc : Nat} {ls st : List Value} {h : zm_H} (hs : zm_stp M pc ls st h = none) : zm_den r M pc ls st h = none := by
  refine zm_opt_ext fun o => ?_
  rw [zm_den_iff]
  constructor
  · rintro ⟨n, hn⟩
    cases n with
    | zero => cases hn
    | succ n => rw [zm_run, hs] at hn; cases hn
  · intro e; cases e
