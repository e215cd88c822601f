section ZS3
variable {M pc : Nat}
theorem zs_gi {ci k n i : Nat} {C : String} {T : u_T} {N : Nat} (hd : decode (zm_cc M) pc = .ok (.getfield i, 3)) (hc : vwCl[ci]? = some (C, T, N)) (hci : ci < 50) (hk : k < N) (hin : ∀ w ∈ u_ws C T N, w ∈ zT) (hw : Cond.fieldLink (zm_y M).cls i (T k).1 (T k).2.1 (T k).2.2.1 ∈ zT) : zm_Snd M pc (zi_gi ci k (pc + 3)) := by
  refine zm_pure (fun ls st h x hh => ?_) ?_
  · unfold zi_gi at hh
    repeat' split at hh
    all_goals first | (cases hh; done) | exact ⟨_, _, (Option.some.inj hh).symm⟩
  · intro sp L xs dC dI A p l e R s m args below meth c H locs cells slots Q ws LS ST ls st h pc' ls' st' X S hf kk
    unfold zi_gi at hf
    split at hf
    · split at hf
      · rename_i a st0 _ c1 fs hg
        split at hf
        · rename_i hcc
          subst hcc
          split at hf
          · rename_i v hv
            cases hf
            obtain ⟨V, ST1, rfl, hV, h2⟩ := zv_v S.2.2.2.2.2
            obtain ⟨A1, FS, rfl, g1, g2⟩ := zm_obj S.2.2.2.1 hci hg hV
            obtain ⟨V1, q1, q2⟩ := zm_Vr_get g2 hv
            cases q2
            exact va_get (ref := (T k).1) X.1 X.2.1 X.2.2.2.2.1 hin X.2.2.2.1 X.2.2.2.2.2.1 S.1 a g1 hc k hk (X.2.2.2.2.1 _ hw) (fun _ h => h) q1 hd (kk _ ⟨rfl, h2⟩)
          · cases hf
        · cases hf
      · cases hf
    · cases hf
theorem zs_gr {ci k n i : Nat} {C : String} {T : u_T} {N : Nat} (hd : decode (zm_cc M) pc = .ok (.getfield i, 3)) (hc : vwCl[ci]? = some (C, T, N)) (hci : ci < 50) (hk : k < N) (hin : ∀ w ∈ u_ws C T N, w ∈ zT) (hw : Cond.fieldLink (zm_y M).cls i (T k).1 (T k).2.1 (T k).2.2.1 ∈ zT) : zm_Snd M pc (zi_gr ci k (pc + 3)) := by
  refine zm_pure (fun ls st h x hh => ?_) ?_
  · unfold zi_gr at hh
    repeat' split at hh
    all_goals first | (cases hh; done) | exact ⟨_, _, (Option.some.inj hh).symm⟩
  · intro sp L xs dC dI A p l e R s m args below meth c H locs cells slots Q ws LS ST ls st h pc' ls' st' X S hf kk
    unfold zi_gr at hf
    split at hf
    · split at hf
      · rename_i a st0 _ c1 fs hg
        split at hf
        · rename_i hcc
          subst hcc
          split at hf
          · rename_i v hv
            cases hf
            obtain ⟨V, ST1, rfl, hV, h2⟩ := zv_v S.2.2.2.2.2
            obtain ⟨A1, FS, rfl, g1, g2⟩ := zm_obj S.2.2.2.1 hci hg hV
            obtain ⟨V1, q1, q2⟩ := zm_Vr_get g2 hv
            exact va_get (ref := (T k).1) X.1 X.2.1 X.2.2.2.2.1 hin X.2.2.2.1 X.2.2.2.2.2.1 S.1 a g1 hc k hk (X.2.2.2.2.1 _ hw) (fun _ h => h) q1 hd (kk _ ⟨q2, h2⟩)
          · cases hf
        · cases hf
      · cases hf
    · cases hf
theorem zm_wr {M pc : Nat} {f : zm_F} (hx : ∀ ls st h x, f ls st h = some x → ∃ pc' ls' st' a e, x = .inl (pc', ls', st', zm_s h a e)) (hg : ∀ {sp : Nat → Value} {L : Nat} {xs : Nat → Int32} {dC : Nat → ClassId} {dI : Nat → Nat → Nat} {A : Nat → Prop} {p : Program} {l : Launch} {e : Env} {R : Room} {s : State} {m : MethodId} {args : Array Value} {below : List Frame} {meth : Method} {c : Code} {H : Heap} {locs : List Loc} {cells slots : Nat} {Q : State → Prop} {ws : va_W} {LS : Array Slot} {ST ls st : List Value} {h : zm_H} {pc' : Nat} {ls' st' : List Value} {h' : zm_H},
  zm_X M sp L xs dC dI A p R s m args meth c → zm_S M sp L xs dC dI A s H locs ws ls st h LS ST → f ls st h = some (.inl (pc', ls', st', h')) →
  (∀ (H' : Heap) (locs' : List Loc) (ws' : va_W) (ST' : List Value), zm_E ws ws' → va_P (dC, dI) vwCl ws' H' → va_D A ws' → va_S A s.heap H' locs' → zm_Hr s sp L xs ws' h' → ls' = ls → zm_Vr sp ws' st' ST' → W p l e R s m args below meth c H' locs' cells slots Q (F0 m pc' LS ST')) →
  W p l e R s m args below meth c H locs cells slots Q (F0 m pc LS ST)) : zm_Snd M pc f := by
  refine ⟨fun hh => ?_, fun hh => ?_, fun hh => ?_, ?_⟩
  · obtain ⟨_, _, _, _, _, e⟩ := hx _ _ _ _ hh
    cases e
    exact ⟨Nat.le_refl _, Nat.le_refl _⟩
  · obtain ⟨_, _, _, _, _, e⟩ := hx _ _ _ _ hh
    cases e
  · obtain ⟨_, _, _, _, _, e⟩ := hx _ _ _ _ hh
    cases e
  · intro sp L xs dC dI A p l e R s m args below meth c H locs cells slots Q ws LS ST ls st h pc' ls' st' h' X S hf h1 h2 kk
    refine hg X S hf fun H' locs' ws' ST' gE g1 g2 g3 g4 gl g5 => ?_
    obtain ⟨lv, l1, l2⟩ := S.2.2.2.2.1
    have := kk H' locs' ws' LS ST' gE ⟨g1, g2, g3, g4, ⟨lv, l1, by rw [gl]; exact zm_Lr_E gE l2⟩, g5⟩
    obtain ⟨_, _, _, a, e', eq⟩ := hx _ _ _ _ hf
    cases eq
    have e1 : (zm_s h a e').1 - h.1 = 0 := Nat.sub_self _
    have e2 : (zm_s h a e').2.1 - h.2.1 = 0 := Nat.sub_self _
    rw [e1, e2, Nat.add_zero, Nat.add_zero] at this
    exact this
theorem zs_pf {ci k i : Nat} {C : String} {T : u_T} {N : Nat} {ty0 : Nat → FieldType} (hd : decode (zm_cc M) pc = .ok (.putfield i, 3)) (hc : vwCl[ci]? = some (C, T, N)) (hci : ci < 50) (hk : k < N) (hin : ∀ w ∈ u_ws C T N, w ∈ zT) (hw : Cond.fieldLink (zm_y M).cls i (T k).1 (T k).2.1 (T k).2.2.1 ∈ zT) (hty : ∀ k, k < N → parseFieldDescriptor (T k).2.2.1 = some (ty0 k)) (hnm : ∀ a, a < N → ∀ b, b < N → a ≠ b → (T a).2.1 ≠ (T b).2.1) (hfin : (T k).2.2.2 = false) (hint : parseFieldDescriptor (T k).2.2.1 = some .int) : zm_Snd M pc (zi_pf ci k (pc + 3)) := by
  refine zm_wr (fun ls st h x hh => ?_) ?_
  · unfold zi_pf at hh
    repeat' split at hh
    all_goals first | (cases hh; done) | exact ⟨_, _, _, _, _, (Option.some.inj hh).symm⟩
  · intro sp L xs dC dI A p l e R s m args below meth c H locs cells slots Q ws LS ST ls st h pc' ls' st' h' X S hf kk
    unfold zi_pf at hf
    split at hf
    · split at hf
      · rename_i x a st0 _ c1 fs hg
        split at hf
        · rename_i hcc
          obtain ⟨rfl, hlen⟩ := hcc
          cases hf
          obtain ⟨ST0, rfl, h0⟩ := zv_i S.2.2.2.2.2
          obtain ⟨V, ST1, rfl, hV, h2⟩ := zv_v h0
          obtain ⟨A1, FS, rfl, g1, g2⟩ := zm_obj S.2.2.2.1 hci hg hV
          refine va_put (ref := (T k).1) (v := .int x) (ty := .int) X.1 X.2.1 X.2.2.2.2.1 hin ty0 hty hnm X.2.2.2.1 X.2.2.2.2.2.1 S.1 S.2.1 S.2.2.1 a g1 hc k hk (X.2.2.2.2.1 _ hw) (fun _ h => h) hfin hint rfl rfl (by rw [← zm_Vr_len g2]; exact hlen) hd fun H1 locs1 k1 k2 k3 => ?_
          have hE := zm_E_set (e := .inr (c1, FS.set k (.int x))) g1
          exact kk H1 locs1 _ ST1 hE k1 k2 k3 (zm_Hr_set S.2.2.2.1 g1 ⟨rfl, zm_Vr_set g2 k rfl⟩) rfl (zm_Vr_E hE h2)
        · cases hf
      · cases hf
    · cases hf
theorem zs_pr {ci k i : Nat} {C : String} {T : u_T} {N : Nat} {ty0 : Nat → FieldType} {ty : FieldType} (hd : decode (zm_cc M) pc = .ok (.putfield i, 3)) (hc : vwCl[ci]? = some (C, T, N)) (hci : ci < 50) (hk : k < N) (hin : ∀ w ∈ u_ws C T N, w ∈ zT) (hw : Cond.fieldLink (zm_y M).cls i (T k).1 (T k).2.1 (T k).2.2.1 ∈ zT) (hty : ∀ k, k < N → parseFieldDescriptor (T k).2.2.1 = some (ty0 k)) (hnm : ∀ a, a < N → ∀ b, b < N → a ≠ b → (T a).2.1 ≠ (T b).2.1) (hfin : (T k).2.2.2 = true) (hi : (zm_y M).name = "<init>") (hdecl : (T k).1 = (zm_y M).cls) (hint : parseFieldDescriptor (T k).2.2.1 = some ty) (hnr : ∀ a, narrow ty (.ref a) = .ref a) (hft : ∀ a, fits ty (.ref a) = true) : zm_Snd M pc (zi_pr ci k (pc + 3)) := by
  refine zm_wr (fun ls st h x hh => ?_) ?_
  · unfold zi_pr at hh
    repeat' split at hh
    all_goals first | (cases hh; done) | exact ⟨_, _, _, _, _, (Option.some.inj hh).symm⟩
  · intro sp L xs dC dI A p l e R s m args below meth c H locs cells slots Q ws LS ST ls st h pc' ls' st' h' X S hf kk
    unfold zi_pr at hf
    split at hf
    · split at hf
      · rename_i x a st0 _ c1 fs hg
        split at hf
        · rename_i hcc
          obtain ⟨rfl, hlen⟩ := hcc
          cases hf
          obtain ⟨V0, ST0, rfl, hV0, h0⟩ := zv_v S.2.2.2.2.2
          obtain ⟨a0, rfl⟩ := zm_ref_cv X.2.2.2.2.2.2.1 hV0
          obtain ⟨V, ST1, rfl, hV, h2⟩ := zv_v h0
          obtain ⟨A1, FS, rfl, g1, g2⟩ := zm_obj S.2.2.2.1 hci hg hV
          refine va_putF (ref := (T k).1) (v := .ref a0) (ty := ty) X.1 X.2.1 X.2.2.2.2.1 hin ty0 hty hnm X.2.2.2.1 X.2.2.2.2.2.1 S.1 S.2.1 S.2.2.1 a g1 hc k hk (X.2.2.2.2.1 _ hw) (fun _ h => h) hfin (X.2.2.2.2.2.2.2.2.1 hi) hdecl hint (hnr a0) (hft a0) (by rw [← zm_Vr_len g2]; exact hlen) hd fun H1 locs1 k1 k2 k3 => ?_
          have hE := zm_E_set (e := .inr (c1, FS.set k (.ref a0))) g1
          exact kk H1 locs1 _ ST1 hE k1 k2 k3 (zm_Hr_set S.2.2.2.1 g1 ⟨rfl, zm_Vr_set g2 k hV0⟩) rfl (zm_Vr_E hE h2)
        · cases hf
      · cases hf
    · cases hf
theorem zs_ald {t n : Nat} (ht : t ≠ 8) (hr : ∀ {dC : Nat → ClassId} {dI : Nat → Nat → Nat} {p : Program} {l : Launch} {e : Env} {R : Room} {s : State} {m : MethodId} {args : Array Value} {below : List Frame} {meth : Method} {c : Code} {H : Heap} {locs : List Loc} {cells slots : Nat} {Q : State → Prop} {LS : Array Slot} {ST : List Value} {ws : va_W} {a A1 cA N : Nat} {f : Nat → Int32} {i : Int32}, p.tables.exec = Jvm.exec → c.code = zm_cc M → va_K (dC, dI) vwCl [(cA, zm_ty t)] s → va_P (dC, dI) vwCl ws H → ws[a]? = some (A1, .inl (cA, N, .inl f)) → vp_in i N → W p l e R s m args below meth c H locs cells slots Q (F0 m n LS (.int (f i.toNatClampNeg) :: ST)) → W p l e R s m args below meth c H locs cells slots Q (F0 m pc LS (.int i :: .ref A1 :: ST))) : zm_Snd M pc (zi_ald t n) := by
  refine zm_pure (fun ls st h x hh => ?_) ?_
  · unfold zi_ald at hh
    repeat' split at hh
    all_goals first | (cases hh; done) | exact ⟨_, _, (Option.some.inj hh).symm⟩
  · intro sp L xs dC dI A p l e R s m args below meth c H locs cells slots Q ws LS ST ls st h pc' ls' st' X S hf kk
    unfold zi_ald at hf
    split at hf
    · split at hf
      · rename_i i a st0 _ u N f hg
        split at hf
        · rename_i hcc
          obtain ⟨rfl, hin⟩ := hcc
          cases hf
          obtain ⟨ST0, rfl, h0⟩ := zv_i S.2.2.2.2.2
          obtain ⟨V, ST1, rfl, hV, h2⟩ := zv_v h0
          obtain ⟨A1, cA, rfl, g1, g2, g3⟩ := zm_arr S.2.2.2.1 ht hg hV
          exact hr X.1 X.2.1 (zm_K1 X.2.2.2.2.2.1 g2 g3) S.1 g1 (zm_vin_iff.mp hin) (kk _ ⟨rfl, h2⟩)
        · cases hf
      · cases hf
    · cases hf
theorem zs_iald (hd : decode (zm_cc M) pc = .ok (.iaload, 1)) : zm_Snd M pc (zi_ald 0 (pc + 1)) := zs_ald (by decide) fun h1 h2 h3 h4 h5 h6 k => va_iald h1 h2 h3 h4 _ 0 h5 rfl h6 hd k
theorem zs_bald (hd : decode (zm_cc M) pc = .ok (.baload, 1)) : zm_Snd M pc (zi_ald 1 (pc + 1)) := zs_ald (by decide) fun h1 h2 h3 h4 h5 h6 k => va_bald h1 h2 h3 h4 _ 0 h5 rfl h6 hd k
theorem zs_zald (hd : decode (zm_cc M) pc = .ok (.baload, 1)) : zm_Snd M pc (zi_ald 2 (pc + 1)) := zs_ald (by decide) fun h1 h2 h3 h4 h5 h6 k => va_zald h1 h2 h3 h4 _ 0 h5 rfl h6 hd k
theorem zs_ast {t n : Nat} {nar : Int32 → Int32} (ht : t ≠ 8) (hr : ∀ {A : Nat → Prop} {H0 : Heap} {dC : Nat → ClassId} {dI : Nat → Nat → Nat} {p : Program} {l : Launch} {e : Env} {R : Room} {s : State} {m : MethodId} {args : Array Value} {below : List Frame} {meth : Method} {c : Code} {H : Heap} {locs : List Loc} {cells slots : Nat} {Q : State → Prop} {LS : Array Slot} {ST : List Value} {ws : va_W} {a A1 cA N : Nat} {f : Nat → Int32} {i x : Int32}, p.tables.exec = Jvm.exec → c.code = zm_cc M → va_K (dC, dI) vwCl [(cA, zm_ty t)] s → va_P (dC, dI) vwCl ws H → va_D A ws → va_S A H0 H locs → ws[a]? = some (A1, .inl (cA, N, .inl f)) → vp_in i N → (∀ (H1 : Heap) (locs1 : List Loc), va_P (dC, dI) vwCl (ws.set a (A1, .inl (cA, N, .inl (upd f i.toNatClampNeg (nar x))))) H1 → va_D A (ws.set a (A1, .inl (cA, N, .inl (upd f i.toNatClampNeg (nar x))))) → va_S A H0 H1 locs1 → W p l e R s m args below meth c H1 locs1 cells slots Q (F0 m n LS ST)) → W p l e R s m args below meth c H locs cells slots Q (F0 m pc LS (.int x :: .int i :: .ref A1 :: ST))) : zm_Snd M pc (zi_ast t nar n) := by
  refine zm_wr (fun ls st h x hh => ?_) ?_
  · unfold zi_ast at hh
    repeat' split at hh
    all_goals first | (cases hh; done) | exact ⟨_, _, _, _, _, (Option.some.inj hh).symm⟩
  · intro sp L xs dC dI A p l e R s m args below meth c H locs cells slots Q ws LS ST ls st h pc' ls' st' h' X S hf kk
    unfold zi_ast at hf
    split at hf
    · split at hf
      · rename_i x i a st0 _ u N f hg
        split at hf
        · rename_i hcc
          obtain ⟨rfl, hin⟩ := hcc
          cases hf
          obtain ⟨ST0, rfl, h0⟩ := zv_i S.2.2.2.2.2
          obtain ⟨ST9, rfl, h9⟩ := zv_i h0
          obtain ⟨V, ST1, rfl, hV, h2⟩ := zv_v h9
          obtain ⟨A1, cA, rfl, g1, g2, g3⟩ := zm_arr S.2.2.2.1 ht hg hV
          refine hr X.1 X.2.1 (zm_K1 X.2.2.2.2.2.1 g2 g3) S.1 S.2.1 S.2.2.1 g1 (zm_vin_iff.mp hin) fun H1 locs1 k1 k2 k3 => ?_
          have hE := zm_E_set (e := .inl (cA, N, .inl (upd f i.toNatClampNeg (nar x)))) g1
          exact kk H1 locs1 _ ST1 hE k1 k2 k3 (zm_Hr_set S.2.2.2.1 g1 ⟨rfl, rfl, g2, g3⟩) rfl (zm_Vr_E hE h2)
        · cases hf
      · cases hf
    · cases hf
theorem zs_iast (hd : decode (zm_cc M) pc = .ok (.iastore, 1)) : zm_Snd M pc (zi_ast 0 (fun x => x) (pc + 1)) := zs_ast (by decide) fun h1 h2 h3 h4 h5 h6 h7 h8 k => va_iast h1 h2 h3 h4 h5 h6 _ 0 h7 rfl h8 hd k
theorem zs_bast (hd : decode (zm_cc M) pc = .ok (.bastore, 1)) : zm_Snd M pc (zi_ast 1 (vp_nar .byte) (pc + 1)) := zs_ast (by decide) fun h1 h2 h3 h4 h5 h6 h7 h8 k => va_bast h1 h2 h3 h4 h5 h6 _ 0 h7 rfl h8 hd k
theorem zs_zast (hd : decode (zm_cc M) pc = .ok (.bastore, 1)) : zm_Snd M pc (zi_ast 2 (vp_nar .boolean) (pc + 1)) := zs_ast (by decide) fun h1 h2 h3 h4 h5 h6 h7 h8 k => va_zast h1 h2 h3 h4 h5 h6 _ 0 h7 rfl h8 hd k
end ZS3
