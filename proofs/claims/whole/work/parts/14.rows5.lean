section ZS5
variable {M pc : Nat}
theorem zm_tk_spec : ∀ {k : Nat} {st as rest : List Value}, zm_tk k st = some (as, rest) → st = as ++ rest ∧ as.length = k
  | 0, st, as, rest, h => by cases h; exact ⟨rfl, rfl⟩
  | k + 1, [], as, rest, h => by cases h
  | k + 1, v :: st, as, rest, h => by
    unfold zm_tk at h
    obtain ⟨q, h1, h2⟩ := Option.map_eq_some_iff.mp h
    obtain ⟨e1, e2⟩ := zm_tk_spec (as := q.1) (rest := q.2) h1
    cases h2
    exact ⟨by rw [e1]; rfl, by rw [← e2]; rfl⟩
theorem zm_calls {f : zm_F} (hx : ∀ ls st h x, f ls st h = some x → ∃ k, x = .inr (.inr k) ∧ zm_Cl M pc h st k) : zm_Snd M pc f := by
  refine ⟨fun hh => ?_, fun hh => ?_, fun hh => ?_, ?_⟩
  · obtain ⟨_, e, -⟩ := hx _ _ _ _ hh
    cases e
  · obtain ⟨_, e, -⟩ := hx _ _ _ _ hh
    cases e
  · obtain ⟨_, e, g⟩ := hx _ _ _ _ hh
    cases e
    exact g
  · intro sp L xs dC dI A p l e R s m args below meth c H locs cells slots Q ws LS ST ls st h pc' ls' st' h' X S hf
    obtain ⟨_, e, -⟩ := hx _ _ _ _ hf
    cases e
theorem zs_cs {M' k idx kd : Nat} (hd : decode (zm_cc M) pc = .ok (.invokestatic idx, 3)) (hW : zm_Wd M' k) (h1 : Cond.methodLink (zm_y M).cls idx (zm_y M') ∈ zT) (h2 : Cond.static (zm_y M') ∈ zT) : zm_Snd M pc (zi_cs M' k (pc + 3) kd) := by
  refine zm_calls fun ls st h x hh => ?_
  unfold zi_cs at hh
  split at hh
  · rename_i as rest ht
    split at hh
    · rename_i hs
      obtain ⟨e1, e2⟩ := zm_tk_spec ht
      refine ⟨_, (Option.some.inj hh).symm, rfl, hs, idx, Or.inl ⟨k, hW, by simp [e2], by simp [e1], hd, h1, h2⟩⟩
    · cases hh
  · cases hh
theorem zs_cv {M' k ci idx kd : Nat} {q : vw_C} (hd : decode (zm_cc M) pc = .ok (.invokevirtual idx, 3)) (hW : zm_Wd M' k) (h1 : Cond.methodLink (zm_y M).cls idx (zm_y M') ∈ zT) (h2 : Cond.instanceMethod (zm_y M') ∈ zT) (h3 : Cond.selects (zm_y M').cls (zm_y M') (zm_y M') ∈ zT) (hci : ci < 50) (hc : vwCl[ci]? = some q) (hq : q.1 = (zm_y M').cls) : zm_Snd M pc (zi_cv M' k ci (pc + 3) kd) := by
  refine zm_calls fun ls st h x hh => ?_
  unfold zi_cv at hh
  split at hh
  · rename_i as a rest ht
    split at hh
    · rename_i c1 fs hg
      split at hh
      · rename_i hs
        obtain ⟨rfl, hs⟩ := hs
        obtain ⟨e1, e2⟩ := zm_tk_spec ht
        refine ⟨_, (Option.some.inj hh).symm, rfl, hs, idx, Or.inr (Or.inl ⟨k, a, as.reverse, hW, by simp [e2], rfl, by simp [e1], ⟨hd, h1, h2, h3⟩, Or.inl ⟨c1, fs, q, hg, hci, hc, hq⟩⟩)⟩
      · cases hh
    · cases hh
  · cases hh
theorem zs_cw {M' k idx kd : Nat} (hd : decode (zm_cc M) pc = .ok (.invokevirtual idx, 3)) (hW : zm_Wd M' k) (h1 : Cond.methodLink (zm_y M).cls idx (zm_y M') ∈ zT) (h2 : Cond.instanceMethod (zm_y M') ∈ zT) (h3 : Cond.selects (zm_y M').cls (zm_y M') (zm_y M') ∈ zT) (hq : (zm_y M').cls = "java/lang/String") : zm_Snd M pc (zi_cw M' k (pc + 3) kd) := by
  refine zm_calls fun ls st h x hh => ?_
  unfold zi_cw at hh
  split at hh
  · rename_i as a rest ht
    split at hh
    · rename_i hs
      obtain ⟨e1, e2⟩ := zm_tk_spec ht
      refine ⟨_, (Option.some.inj hh).symm, rfl, hs.2.2, idx, Or.inr (Or.inl ⟨k, a, as.reverse, hW, by simp [e2], rfl, by simp [e1], ⟨hd, h1, h2, h3⟩, Or.inr ⟨hs.1, hs.2.1, hq⟩⟩)⟩
    · cases hh
  · cases hh
theorem zs_ci {M' k idx kd : Nat} (hd : decode (zm_cc M) pc = .ok (.invokespecial idx, 3)) (hW : zm_Wd M' k) (h1 : Cond.methodLink (zm_y M).cls idx (zm_y M') ∈ zT ∨ (Cond.methodLinkNest (zm_y M).cls idx (zm_y M') "SnowReign" = .methodLinkNest RX2 17 yX0_init "SnowReign" ∨ Cond.methodLinkNest (zm_y M).cls idx (zm_y M') "SnowReign" = .methodLinkNest RX6 21 yX0_init "SnowReign")) (h2 : Cond.instanceMethod (zm_y M') ∈ zT) (h3 : zm_rt M' = none) (h4 : (zm_y M').name = "<init>") : zm_Snd M pc (zi_ci M' k (pc + 3) kd) := by
  refine zm_calls fun ls st h x hh => ?_
  unfold zi_ci at hh
  split at hh
  · rename_i as a rest ht
    split at hh
    · rename_i hs
      obtain ⟨e1, e2⟩ := zm_tk_spec ht
      refine ⟨_, (Option.some.inj hh).symm, rfl, hs.1, idx, Or.inr (Or.inr ⟨k, a, as.reverse, hW, by simp [e2], rfl, hs.2, by simp [e1], h3, h4, hd, h2, h1⟩)⟩
    · cases hh
  · cases hh
theorem zm_rets {f : zm_F} (hx : ∀ ls st h x, f ls st h = some x → ∃ v, x = .inr (.inl v) ∧ zm_Ret M pc v st) : zm_Snd M pc f := by
  refine ⟨fun hh => ?_, fun hh => ?_, fun hh => ?_, ?_⟩
  · obtain ⟨_, e, -⟩ := hx _ _ _ _ hh
    cases e
  · obtain ⟨_, e, g⟩ := hx _ _ _ _ hh
    cases e
    exact g
  · obtain ⟨_, e, -⟩ := hx _ _ _ _ hh
    cases e
  · intro sp L xs dC dI A p l e R s m args below meth c H locs cells slots Q ws LS ST ls st h pc' ls' st' h' X S hf
    obtain ⟨_, e, -⟩ := hx _ _ _ _ hf
    cases e
theorem zs_ri (hd : decode (zm_cc M) pc = .ok (.ireturn, 1)) (hr : zm_rt M = some .int) : zm_Snd M pc zi_ri := by
  refine zm_rets fun ls st h x hh => ?_
  unfold zi_ri at hh
  split at hh
  · exact ⟨_, (Option.some.inj hh).symm, Or.inl ⟨_, rfl, rfl, hd, .int, hr, rfl⟩⟩
  · cases hh
theorem zs_rz (hd : decode (zm_cc M) pc = .ok (.ireturn, 1)) (hr : zm_rt M = some .boolean) : zm_Snd M pc zi_rz := by
  refine zm_rets fun ls st h x hh => ?_
  unfold zi_rz at hh
  split at hh
  · split at hh
    · rename_i hx
      refine ⟨_, (Option.some.inj hh).symm, Or.inl ⟨_, rfl, rfl, hd, .boolean, hr, ?_⟩⟩
      rcases hx with rfl | rfl <;> decide
    · cases hh
  · cases hh
theorem zs_rn {t : FieldType} (hd : decode (zm_cc M) pc = .ok (.ireturn, 1)) (hr : zm_rt M = some t) : zm_Snd M pc (zi_rn t) := by
  refine zm_rets fun ls st h x hh => ?_
  unfold zi_rn at hh
  split at hh
  · split at hh
    · rename_i hx
      exact ⟨_, (Option.some.inj hh).symm, Or.inl ⟨_, rfl, rfl, hd, t, hr, hx⟩⟩
    · cases hh
  · cases hh
theorem zs_rl (hd : decode (zm_cc M) pc = .ok (.lreturn, 1)) (hr : zm_rt M = some .long) : zm_Snd M pc zi_rl := by
  refine zm_rets fun ls st h x hh => ?_
  unfold zi_rl at hh
  split at hh
  · exact ⟨_, (Option.some.inj hh).symm, Or.inr (Or.inl ⟨_, rfl, rfl, hd, hr⟩)⟩
  · cases hh
theorem zs_rv (hd : decode (zm_cc M) pc = .ok (.return_, 1)) (hr : zm_rt M = none) : zm_Snd M pc zi_rv := by
  refine zm_rets fun ls st h x hh => ?_
  unfold zi_rv at hh
  split at hh
  · exact ⟨_, (Option.some.inj hh).symm, Or.inr (Or.inr ⟨rfl, rfl, hd, hr⟩)⟩
  · cases hh
theorem zm_sm_le {sp : Nat → Value} {L : Nat} {xs : Nat → Int32} {A : Nat → Prop} {s : State} (hS : zm_St sp L xs A s) {ws : va_W} {st ST : List Value} (h : zm_Vr sp ws st ST) (hs : zm_sm st ≤ 8) : (ST.map fun v => v.category).sum ≤ 8 := by
  obtain ⟨b, t0, adK, adV, ⟨-, -, -, -, h5⟩, -⟩ := hS
  rw [zm_Vr_cat h5 h]
  exact hs
theorem zs_oi {idx : Nat} (hd : decode (zm_cc M) pc = .ok (.invokespecial idx, 3)) (h1 : Cond.methodLink (zm_y M).cls idx Lib.objectInit ∈ zT) (h2 : Cond.instanceMethod Lib.objectInit ∈ zT) (h3 : Cond.code Lib.objectInit ⟨#[0xb1]⟩ 1 none ∈ zT) : zm_Snd M pc (zi_oi (pc + 3)) := by
  refine zm_pure (fun ls st h x hh => ?_) ?_
  · unfold zi_oi at hh
    repeat' split at hh
    all_goals first | (cases hh; done) | exact ⟨_, _, (Option.some.inj hh).symm⟩
  · intro sp L xs dC dI A p l e R s m args below meth c H locs cells slots Q ws LS ST ls st h pc' ls' st' X S hf kk
    unfold zi_oi at hf
    split at hf
    · split at hf
      · rename_i hs
        cases hf
        obtain ⟨V, ST1, rfl, hV, h9⟩ := zv_v S.2.2.2.2.2
        obtain ⟨a, rfl⟩ := zm_ref_cv X.2.2.2.2.2.2.1 hV
        obtain ⟨lv, l1, -⟩ := S.2.2.2.2.1
        have hm := zm_sm_le X.2.2.2.2.2.2.1 h9 hs.1
        refine W.objInit X.1 X.2.1 X.2.2.2.1 (X.2.2.2.2.1 _ h1) (X.2.2.2.2.1 _ h2) (X.2.2.2.2.1 _ h3) rfl (by rw [X.2.2.1]; exact l1.1) rfl hd X.2.2.2.2.2.2.2.2.2.1 ?_ ?_
        · show 2 * 0 + _ + 12 ≤ _
          have := X.2.2.2.2.2.2.2.2.2.2
          omega
        · exact kk _ h9
      · cases hf
    · cases hf
theorem zs_cpy {idx : Nat} (hd : decode (zm_cc M) pc = .ok (.invokestatic idx, 3)) (h1 : Cond.methodLink (zm_y M).cls idx arraycopyName ∈ zT) (h2 : Cond.native arraycopyName ∈ zT) (h3 : Cond.static arraycopyName ∈ zT) (h4 : Cond.initialized "java/lang/System" ∈ zT) : zm_Snd M pc (zi_cpy (pc + 3)) := by
  refine zm_wr (fun ls st h x hh => ?_) ?_
  · unfold zi_cpy at hh
    repeat' split at hh
    all_goals first | (cases hh; done) | exact ⟨_, _, _, _, _, (Option.some.inj hh).symm⟩
  · intro sp L xs dC dI A p l e R s m args below meth c H locs cells slots Q ws LS ST ls st h pc' ls' st' h' X S hf kk
    unfold zi_cpy at hf
    split at hf
    · split at hf
      · rename_i k dp b sp0 a st0 _ _ N f N' g hg hg'
        split at hf
        · rename_i hcc
          obtain ⟨c1, c2, c3, c4, c5, c6⟩ := hcc
          cases hf
          obtain ⟨ST1, rfl, v1⟩ := zv_i S.2.2.2.2.2
          obtain ⟨ST2, rfl, v2⟩ := zv_i v1
          obtain ⟨Vb, ST3, rfl, hVb, v3⟩ := zv_v v2
          obtain ⟨ST4, rfl, v4⟩ := zv_i v3
          obtain ⟨Va, ST5, rfl, hVa, v5⟩ := zv_v v4
          obtain ⟨A1, cA, rfl, g1, g2, g3⟩ := zm_arr S.2.2.2.1 (by decide) hg hVa
          obtain ⟨B1, cB, rfl, k1, k2, k3⟩ := zm_arr S.2.2.2.1 (by decide) hg' hVb
          obtain ⟨lv, l1, -⟩ := S.2.2.2.2.1
          have hm := zm_sm_le X.2.2.2.2.2.2.1 v5 c6
          have hK : va_K (dC, dI) vwCl [(cA, .int), (cB, .int)] s := (zm_K1 X.2.2.2.2.2.1 g2 g3).app (zm_K1 X.2.2.2.2.2.1 k2 k3)
          refine va_copyi (ty := .int) X.1 X.2.1 (by rw [X.2.2.1]; exact l1.1.symm) X.2.2.2.1 (X.2.2.2.2.1 _ h1) (X.2.2.2.2.1 _ h2) (X.2.2.2.2.1 _ h3) (X.2.2.2.2.1 _ h4) hK S.1 S.2.1 S.2.2.1 a b 0 1 g1 k1 rfl rfl rfl c1 c2 c3 c4 c5 (fun i _ => rfl) X.2.2.2.2.2.2.2.2.2.1 ?_ hd fun H1 locs1 q1 q2 q3 => ?_
          · have := X.2.2.2.2.2.2.2.2.2.2
            have e9 : nativeFrameWords "java/lang/System" "arraycopy" 5 = 7 := by decide
            rw [e9]
            omega
          · have hE := zm_E_set (e := .inl (cB, N', .inl (va_cpy f g sp0.toNatClampNeg dp.toNatClampNeg k.toNatClampNeg))) k1
            exact kk H1 locs1 _ ST5 hE q1 q2 q3 (zm_Hr_set S.2.2.2.1 k1 ⟨rfl, rfl, k2, k3⟩) rfl (zm_Vr_E hE v5)
        · cases hf
      · cases hf
    · cases hf
theorem zm_sp_of {sp : Nat → Value} {ws : va_W} {k : Nat} {V : Value} (hk : k < 12) (h : zm_cv sp ws (.ref (1000000 + k)) = some V) : V = sp k := by
  rw [zm_sp_cv sp ws k hk] at h
  exact (Option.some.inj h).symm
theorem zm_s2 {a : Nat} (h1 : 1000002 ≤ a) (h2 : a < 1000007) : ∃ j : Nat, j < 5 ∧ a = 1000000 + (2 + j) := ⟨a - 1000002, by omega, by omega⟩
theorem zm_s7 {a : Nat} (h1 : 1000007 ≤ a) (h2 : a < 1000012) : ∃ j : Nat, j < 5 ∧ a = 1000000 + (7 + j) := ⟨a - 1000007, by omega, by omega⟩
theorem zm_o7 (j : Nat) : 1000000 + (7 + j) - 1000007 = j := by omega
theorem zm_o5 (j : Nat) : 1000000 + (2 + j) + 5 = 1000000 + (7 + j) := by omega
theorem zs_tld (hd : decode (zm_cc M) pc = .ok (.iaload, 1)) : zm_Snd M pc (zi_tld (pc + 1)) := by
  refine zm_pure (fun ls st h x hh => ?_) ?_
  · unfold zi_tld at hh
    repeat' split at hh
    all_goals first | (cases hh; done) | exact ⟨_, _, (Option.some.inj hh).symm⟩
  · intro sp L xs dC dI A p l e R s m args below meth c H locs cells slots Q ws LS ST ls st h pc' ls' st' X S hf kk
    unfold zi_tld at hf
    split at hf
    · split at hf
      · rename_i i a st0 hcc
        obtain ⟨rfl, hin⟩ := hcc
        cases hf
        obtain ⟨ST0, rfl, h0⟩ := zv_i S.2.2.2.2.2
        obtain ⟨V, ST1, rfl, hV, h2⟩ := zv_v h0
        obtain ⟨b, t0, adK, adV, hsp, -, ⟨-, z2⟩, -⟩ := X.2.2.2.2.2.2.1
        have hV := zm_sp_of (k := 1) (by decide) hV
        rw [hsp.2.1] at hV
        subst hV
        exact va_ti X.1 X.2.1 z2 S.2.2.1 (zm_vin_iff.mp hin) rfl hd (kk _ ⟨rfl, h2⟩)
      · cases hf
    · cases hf
theorem zs_sld (hd : decode (zm_cc M) pc = .ok (.iaload, 1)) : zm_Snd M pc (zi_sld (pc + 1)) := by
  refine zm_pure (fun ls st h x hh => ?_) ?_
  · unfold zi_sld at hh
    repeat' split at hh
    all_goals first | (cases hh; done) | exact ⟨_, _, (Option.some.inj hh).symm⟩
  · intro sp L xs dC dI A p l e R s m args below meth c H locs cells slots Q ws LS ST ls st h pc' ls' st' X S hf kk
    unfold zi_sld at hf
    split at hf
    · split at hf
      · rename_i i a st0 _ L' xs' hg
        split at hf
        · rename_i hcc
          obtain ⟨rfl, hin⟩ := hcc
          cases hf
          have hg2 := S.2.2.2.1.2.2.2.2
          have hg3 : (Sum.inl (8, L, Sum.inl xs) : va_E) = .inl (8, L', .inl xs') := hg2.symm.trans hg
          cases hg3
          obtain ⟨ST0, rfl, h0⟩ := zv_i S.2.2.2.2.2
          obtain ⟨V, ST1, rfl, hV, h2⟩ := zv_v h0
          obtain ⟨b, t0, adK, adV, hsp, ⟨x1, x2, x3⟩, -⟩ := X.2.2.2.2.2.2.1
          have hV := zm_sp_of (k := 0) (by decide) hV
          rw [hsp.1] at hV
          subst hV
          exact va_sld X.1 X.2.1 x1 x2 x3 S.2.2.1 (zm_vin_iff.mp hin) hd (kk _ ⟨rfl, h2⟩)
        · cases hf
      · cases hf
    · cases hf
theorem zs_sln (hd : decode (zm_cc M) pc = .ok (.arraylength, 1)) : zm_Snd M pc (zi_sln (pc + 1)) := by
  refine zm_pure (fun ls st h x hh => ?_) ?_
  · unfold zi_sln at hh
    repeat' split at hh
    all_goals first | (cases hh; done) | exact ⟨_, _, (Option.some.inj hh).symm⟩
  · intro sp L xs dC dI A p l e R s m args below meth c H locs cells slots Q ws LS ST ls st h pc' ls' st' X S hf kk
    unfold zi_sln at hf
    split at hf
    · split at hf
      · rename_i a st0 _ L' xs' hg
        split at hf
        · rename_i hcc
          subst hcc
          cases hf
          have hg2 := S.2.2.2.1.2.2.2.2
          have hg3 : (Sum.inl (8, L, Sum.inl xs) : va_E) = .inl (8, L', .inl xs') := hg2.symm.trans hg
          cases hg3
          obtain ⟨V, ST1, rfl, hV, h2⟩ := zv_v S.2.2.2.2.2
          obtain ⟨b, t0, adK, adV, hsp, ⟨x1, x2, x3⟩, -⟩ := X.2.2.2.2.2.2.1
          have hV := zm_sp_of (k := 0) (by decide) hV
          rw [hsp.1] at hV
          subst hV
          exact va_slen X.1 X.2.1 x1 x2 x3 S.2.2.1 hd (kk _ ⟨rfl, h2⟩)
        · cases hf
      · cases hf
    · cases hf
theorem zs_sv {idx : Nat} (hd : decode (zm_cc M) pc = .ok (.getfield idx, 3)) (hw : Cond.fieldLink (zm_y M).cls idx "java/lang/String" "value" "[B" ∈ zT) : zm_Snd M pc (zi_sv (pc + 3)) := by
  refine zm_pure (fun ls st h x hh => ?_) ?_
  · unfold zi_sv at hh
    repeat' split at hh
    all_goals first | (cases hh; done) | exact ⟨_, _, (Option.some.inj hh).symm⟩
  · intro sp L xs dC dI A p l e R s m args below meth c H locs cells slots Q ws LS ST ls st h pc' ls' st' X S hf kk
    unfold zi_sv at hf
    split at hf
    · split at hf
      · rename_i a st0 hcc
        cases hf
        obtain ⟨V, ST1, rfl, hV, h2⟩ := zv_v S.2.2.2.2.2
        obtain ⟨j, hj5, rfl⟩ := zm_s2 hcc.1 hcc.2
        obtain ⟨b, t0, adK, adV, hsp, -, -, -, ⟨k1, -⟩, -⟩ := X.2.2.2.2.2.2.1
        have hV := zm_sp_of (k := 2 + j) (by omega) hV
        rw [hsp.2.2.1 j hj5] at hV
        subst hV
        refine vk_getf X.1 X.2.1 (k1.1 j hj5).2.2.1 S.2.2.1 X.2.2.2.1 (X.2.2.2.2.1 _ hw) (fun _ h => h) hd (kk _ ⟨?_, h2⟩)
        rw [zm_o5 j, zm_sp_cv sp ws (7 + j) (by omega), hsp.2.2.2.1 j hj5]
      · cases hf
    · cases hf
theorem zs_sc {idx : Nat} (hd : decode (zm_cc M) pc = .ok (.getfield idx, 3)) (hw : Cond.fieldLink (zm_y M).cls idx "java/lang/String" "coder" "B" ∈ zT) : zm_Snd M pc (zi_sc (pc + 3)) := by
  refine zm_pure (fun ls st h x hh => ?_) ?_
  · unfold zi_sc at hh
    repeat' split at hh
    all_goals first | (cases hh; done) | exact ⟨_, _, (Option.some.inj hh).symm⟩
  · intro sp L xs dC dI A p l e R s m args below meth c H locs cells slots Q ws LS ST ls st h pc' ls' st' X S hf kk
    unfold zi_sc at hf
    split at hf
    · split at hf
      · rename_i a st0 hcc
        cases hf
        obtain ⟨V, ST1, rfl, hV, h2⟩ := zv_v S.2.2.2.2.2
        obtain ⟨j, hj5, rfl⟩ := zm_s2 hcc.1 hcc.2
        obtain ⟨b, t0, adK, adV, hsp, -, -, -, ⟨k1, -⟩, -⟩ := X.2.2.2.2.2.2.1
        have hV := zm_sp_of (k := 2 + j) (by omega) hV
        rw [hsp.2.2.1 j hj5] at hV
        subst hV
        exact vk_getf X.1 X.2.1 (k1.1 j hj5).2.1 S.2.2.1 X.2.2.2.1 (X.2.2.2.2.1 _ hw) (fun _ h => h) hd (kk _ ⟨rfl, h2⟩)
      · cases hf
    · cases hf
theorem zm_len_eq : ∀ j, j < 5 → zm_len.getD j 0 = (zm_byt.getD j []).length := by decide
theorem zs_vl (hd : decode (zm_cc M) pc = .ok (.arraylength, 1)) : zm_Snd M pc (zi_vl (pc + 1)) := by
  refine zm_pure (fun ls st h x hh => ?_) ?_
  · unfold zi_vl at hh
    repeat' split at hh
    all_goals first | (cases hh; done) | exact ⟨_, _, (Option.some.inj hh).symm⟩
  · intro sp L xs dC dI A p l e R s m args below meth c H locs cells slots Q ws LS ST ls st h pc' ls' st' X S hf kk
    unfold zi_vl at hf
    split at hf
    · split at hf
      · rename_i a st0 hcc
        cases hf
        obtain ⟨V, ST1, rfl, hV, h2⟩ := zv_v S.2.2.2.2.2
        obtain ⟨j, hj5, rfl⟩ := zm_s7 hcc.1 hcc.2
        obtain ⟨b, t0, adK, adV, hsp, -, -, -, ⟨k1, -⟩, -⟩ := X.2.2.2.2.2.2.1
        have hV := zm_sp_of (k := 7 + j) (by omega) hV
        rw [hsp.2.2.2.1 j hj5] at hV
        subst hV
        refine va_tlen X.1 X.2.1 (k1.1 j hj5).2.2.2 S.2.2.1 ?_ hd (kk _ ⟨rfl, h2⟩)
        rw [zm_len_eq j hj5, zm_o7 j]
        rfl
      · cases hf
    · cases hf
theorem zs_vb (hd : decode (zm_cc M) pc = .ok (.baload, 1)) : zm_Snd M pc (zi_vb (pc + 1)) := by
  refine zm_pure (fun ls st h x hh => ?_) ?_
  · unfold zi_vb at hh
    repeat' split at hh
    all_goals first | (cases hh; done) | exact ⟨_, _, (Option.some.inj hh).symm⟩
  · intro sp L xs dC dI A p l e R s m args below meth c H locs cells slots Q ws LS ST ls st h pc' ls' st' X S hf kk
    unfold zi_vb at hf
    split at hf
    · split at hf
      · rename_i i a st0 hcc
        cases hf
        obtain ⟨ST0, rfl, h0⟩ := zv_i S.2.2.2.2.2
        obtain ⟨V, ST1, rfl, hV, h2⟩ := zv_v h0
        obtain ⟨j, hj5, rfl⟩ := zm_s7 hcc.1 hcc.2.1
        obtain ⟨b, t0, adK, adV, hsp, -, -, -, ⟨k1, -⟩, -⟩ := X.2.2.2.2.2.2.1
        have hV := zm_sp_of (k := 7 + j) (by omega) hV
        rw [hsp.2.2.2.1 j hj5] at hV
        subst hV
        have hin := hcc.2.2
        rw [zm_o7 j] at hin
        refine va_tb X.1 X.2.1 (k1.1 j hj5).2.2.2 S.2.2.1 ?_ rfl hd (kk _ ⟨?_, h2⟩)
        · rw [zm_len_eq j hj5]
          exact zm_vin_iff.mp hin
        · rw [zm_o7 j]
          rfl
      · cases hf
    · cases hf
theorem zs_m2 {op : Int32 → Int32 → Int32} {n : Nat} (hr : ∀ {p : Program} {l : Launch} {e : Env} {R : Room} {s : State} {m : MethodId} {args : Array Value} {below : List Frame} {meth : Method} {c : Code} {H : Heap} {locs : List Loc} {cells slots : Nat} {Q : State → Prop} {LS : Array Slot} {ST : List Value} {x y : Int32}, p.tables.exec = Jvm.exec → c.code = zm_cc M → c.maxLocals = LS.size → s.vm.findClass (zm_y M).cls = some m.cls → (∀ w ∈ zT, w.before args s = true) → 1 ≤ R.frames → (ST.map fun v => v.category).sum + 13 ≤ R.locals → cells ≤ R.cells → slots ≤ R.slots → W p l e R s m args below meth c H locs cells slots Q (F0 m n LS (.int (op x y) :: ST)) → W p l e R s m args below meth c H locs cells slots Q (F0 m pc LS (.int y :: .int x :: ST))) : zm_Snd M pc (zi_m2 op n) := by
  have hx : ∀ {ls st : List Value} {h : zm_H} {x : zm_R}, zi_m2 op n ls st h = some x → ∃ y z st0, st = .int y :: .int z :: st0 ∧ zm_sm st0 ≤ 8 ∧ x = .inl (n, ls, .int (op z y) :: st0, h) := by
    intro ls st h x hh
    unfold zi_m2 at hh
    split at hh
    · split at hh
      · rename_i hl
        exact ⟨_, _, _, rfl, hl, (Option.some.inj hh).symm⟩
      · cases hh
    · cases hh
  refine ⟨fun hh => ?_, fun hh => ?_, fun hh => ?_, ?_⟩
  · obtain ⟨_, _, _, -, -, e⟩ := hx hh
    cases e
    exact ⟨Nat.le_refl _, Nat.le_refl _⟩
  · obtain ⟨_, _, _, -, -, e⟩ := hx hh
    cases e
  · obtain ⟨_, _, _, -, -, e⟩ := hx hh
    cases e
  · intro sp L xs dC dI A p l e R s m args below meth c H locs cells slots Q ws LS ST ls st h pc' ls' st' h' X S hf hc1 hc2 kk
    obtain ⟨y, z, st0, rfl, hm, e⟩ := hx hf
    cases e
    rw [Nat.sub_self, Nat.add_zero] at hc1 hc2
    obtain ⟨ST0, rfl, h0⟩ := zv_i S.2.2.2.2.2
    obtain ⟨ST1, rfl, h1⟩ := zv_i h0
    obtain ⟨lv, l1, l2⟩ := S.2.2.2.2.1
    have hsm := zm_sm_le X.2.2.2.2.2.2.1 h1 hm
    have := kk H locs ws LS (.int (op z y) :: ST1) (zm_E_refl ws) ⟨S.1, S.2.1, S.2.2.1, S.2.2.2.1, ⟨lv, l1, l2⟩, rfl, h1⟩
    rw [Nat.sub_self, Nat.sub_self, Nat.add_zero, Nat.add_zero] at this
    exact hr X.1 X.2.1 (by rw [X.2.2.1]; exact l1.1.symm) X.2.2.2.1 X.2.2.2.2.1 X.2.2.2.2.2.2.2.2.2.1 (by have := X.2.2.2.2.2.2.2.2.2.2; omega) hc1 hc2 this
theorem zs_max {idx : Nat} (hd : decode (zm_cc M) pc = .ok (.invokestatic idx, 3)) (h1 : Cond.methodLink (zm_y M).cls idx Lib.Math.max.name ∈ zT) (h2 : Cond.static Lib.Math.max.name ∈ zT) (h3 : Cond.initialized "java/lang/Math" ∈ zT) (h4 : Cond.code Lib.Math.max.name Lib.Math.max.code 2 (some .int) ∈ zT) : zm_Snd M pc (zi_m2 (fun x y => if x < y then y else x) (pc + 3)) := zs_m2 fun a1 a2 a3 a4 a5 a6 a7 a8 a9 k => va_mmax a1 a2 a3 a4 (a5 _ h1) (a5 _ h2) (a5 _ h3) (a5 _ h4) a6 a7 a8 a9 hd k
theorem zs_min {idx : Nat} (hd : decode (zm_cc M) pc = .ok (.invokestatic idx, 3)) (h1 : Cond.methodLink (zm_y M).cls idx Lib.Math.min.name ∈ zT) (h2 : Cond.static Lib.Math.min.name ∈ zT) (h3 : Cond.initialized "java/lang/Math" ∈ zT) (h4 : Cond.code Lib.Math.min.name Lib.Math.min.code 2 (some .int) ∈ zT) : zm_Snd M pc (zi_m2 (fun x y => if y < x then y else x) (pc + 3)) := zs_m2 fun a1 a2 a3 a4 a5 a6 a7 a8 a9 k => va_mmin a1 a2 a3 a4 (a5 _ h1) (a5 _ h2) (a5 _ h3) (a5 _ h4) a6 a7 a8 a9 hd k
theorem zs_abs {idx : Nat} (hd : decode (zm_cc M) pc = .ok (.invokestatic idx, 3)) (h1 : Cond.methodLink (zm_y M).cls idx Lib.Math.abs.name ∈ zT) (h2 : Cond.static Lib.Math.abs.name ∈ zT) (h3 : Cond.initialized "java/lang/Math" ∈ zT) (h4 : Cond.code Lib.Math.abs.name Lib.Math.abs.code 1 (some .int) ∈ zT) : zm_Snd M pc (zi_m1 (fun x => if 0 ≤ x then x else 0 - x) (pc + 3)) := by
  have hx : ∀ {ls st : List Value} {h : zm_H} {x : zm_R}, zi_m1 (fun x => if 0 ≤ x then x else 0 - x) (pc + 3) ls st h = some x → ∃ z st0, st = .int z :: st0 ∧ zm_sm st0 ≤ 8 ∧ x = .inl (pc + 3, ls, .int (if 0 ≤ z then z else 0 - z) :: st0, h) := by
    intro ls st h x hh
    unfold zi_m1 at hh
    split at hh
    · split at hh
      · rename_i hl
        exact ⟨_, _, rfl, hl, (Option.some.inj hh).symm⟩
      · cases hh
    · cases hh
  refine ⟨fun hh => ?_, fun hh => ?_, fun hh => ?_, ?_⟩
  · obtain ⟨_, _, -, -, e⟩ := hx hh
    cases e
    exact ⟨Nat.le_refl _, Nat.le_refl _⟩
  · obtain ⟨_, _, -, -, e⟩ := hx hh
    cases e
  · obtain ⟨_, _, -, -, e⟩ := hx hh
    cases e
  · intro sp L xs dC dI A p l e R s m args below meth c H locs cells slots Q ws LS ST ls st h pc' ls' st' h' X S hf hc1 hc2 kk
    obtain ⟨z, st0, rfl, hm, e⟩ := hx hf
    cases e
    rw [Nat.sub_self, Nat.add_zero] at hc1 hc2
    obtain ⟨ST0, rfl, h0⟩ := zv_i S.2.2.2.2.2
    obtain ⟨lv, l1, l2⟩ := S.2.2.2.2.1
    have hsm := zm_sm_le X.2.2.2.2.2.2.1 h0 hm
    have := kk H locs ws LS (.int (if 0 ≤ z then z else 0 - z) :: ST0) (zm_E_refl ws) ⟨S.1, S.2.1, S.2.2.1, S.2.2.2.1, ⟨lv, l1, l2⟩, rfl, h0⟩
    rw [Nat.sub_self, Nat.sub_self, Nat.add_zero, Nat.add_zero] at this
    exact va_mabs X.1 X.2.1 (by rw [X.2.2.1]; exact l1.1.symm) X.2.2.2.1 (X.2.2.2.2.1 _ h1) (X.2.2.2.2.1 _ h2) (X.2.2.2.2.1 _ h3) (X.2.2.2.2.1 _ h4) X.2.2.2.2.2.2.2.2.2.1 (by have := X.2.2.2.2.2.2.2.2.2.2; omega) hc1 hc2 hd this
end ZS5
