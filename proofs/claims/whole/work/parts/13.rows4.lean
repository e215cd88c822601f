section ZS4
variable {M pc : Nat}
theorem zm_aldq {p : Program} {l : Launch} {e : Env} {R : Room} {s : State} {m : MethodId} {args : Array Value} {below : List Frame} {meth : Method} {c : Code} {H : Heap} {locs : List Loc} {cells slots : Nat} {Q : State → Prop} {cc : ByteArray} {pc : Nat} {ls : Array Slot} {rest : List Value} {D : va_G} {cl : List vw_C} {a : Nat} {ws : va_W} (hexec : p.tables.exec = Jvm.exec) (hb : c.code = cc) (hP : va_P D cl ws H) (q0 : Nat) {cA : ClassId} {ty : FieldType} (hty : ty.isReference = true) {n : Nat} {f : Nat → Option Nat} (ha : ws[q0]? = some (a, .inl (cA, n, .inr (.inr (.inr (.inr f)))))) (ht : ArrOfT s cA ty) {i : Int32} (hin : vp_in i n) (hdg : decode cc pc = .ok (.aaload, 1))
    (kk : W p l e R s m args below meth c H locs cells slots Q (F0 m (pc + 1) ls (va_rf (f i.toNatClampNeg) :: rest))) : W p l e R s m args below meth c H locs cells slots Q (F0 m pc ls (.int i :: .ref a :: rest)) := by
  have hlt : i.toNatClampNeg < n := Nat.not_le.mp fun q => hin (Or.inr q)
  exact W.aald (v := va_rf (f i.toNatClampNeg)) (ty := ty) hexec hb (hP q0 _ ha) (ht n (fun j => va_rf (f j))) hty (fun q => by cases q) (by show ¬ (i < 0 ∨ (arrV _ _ _).slots.size ≤ _); rw [arrV_size]; exact hin) (by show (arrV _ _ _).slots[_]? = _; rw [arrV_read _ _ hlt]) rfl rfl hdg kk
theorem zm_cv_lt {sp : Nat → Value} {ws : va_W} {k : Nat} {q : Nat × va_E} (hk : k < 1000000) (h : ws[k]? = some q) : zm_cv sp ws (.ref k) = some (.ref q.1) := by
  simp only [zm_cv]
  rw [if_neg (show ¬ 1000000 ≤ k by omega), h]
  rfl
theorem zs_qld {t : Nat} (hty : (zm_ty t).isReference = true) (hd : decode (zm_cc M) pc = .ok (.aaload, 1)) : zm_Snd M pc (zi_qld t (pc + 1)) := by
  refine zm_pure (fun ls st h x hh => ?_) ?_
  · unfold zi_qld at hh
    repeat' split at hh
    all_goals first | (cases hh; done) | exact ⟨_, _, (Option.some.inj hh).symm⟩
  · intro sp L xs dC dI A p l e R s m args below meth c H locs cells slots Q ws LS ST ls st h pc' ls' st' X S hf kk
    unfold zi_qld at hf
    split at hf
    · split at hf
      · rename_i i a st0 _ u N f hg
        split at hf
        · rename_i hcc
          obtain ⟨rfl, hin⟩ := hcc
          split at hf
          · rename_i b hb
            cases hf
            obtain ⟨ST0, rfl, h0⟩ := zv_i S.2.2.2.2.2
            obtain ⟨V, ST1, rfl, hV, h2⟩ := zv_v h0
            obtain ⟨A1, cA, F, rfl, g1, g2, g3, g4⟩ := zm_arq S.2.2.2.1 hg hV
            have h9 := g2 i.toNatClampNeg
            rw [hb] at h9
            obtain ⟨hb6, q, hq1, hq2⟩ := h9
            refine zm_aldq X.1 X.2.1 S.1 _ hty g1 g3 (zm_vin_iff.mp hin) hd ?_
            rw [hq2]
            exact kk _ ⟨zm_cv_lt hb6 hq1, h2⟩
          · cases hf
        · cases hf
      · cases hf
    · cases hf
theorem zs_qst {t ci : Nat} {r : vw_C} (hci : ci < 50) (hc : vwCl[ci]? = some r) (hty : zm_ty t = .object r.1) (hd : decode (zm_cc M) pc = .ok (.aastore, 1)) : zm_Snd M pc (zi_qst t ci (pc + 1)) := by
  refine zm_wr (fun ls st h x hh => ?_) ?_
  · unfold zi_qst at hh
    repeat' split at hh
    all_goals first | (cases hh; done) | exact ⟨_, _, _, _, _, (Option.some.inj hh).symm⟩
  · intro sp L xs dC dI A p l e R s m args below meth c H locs cells slots Q ws LS ST ls st h pc' ls' st' h' X S hf kk
    unfold zi_qst at hf
    split at hf
    · split at hf
      · rename_i b i a st0 _ _ u N f c1 fs hg hgb
        split at hf
        · rename_i hcc
          obtain ⟨rfl, hin, rfl⟩ := hcc
          cases hf
          obtain ⟨Vb, ST0, rfl, hVb, h0⟩ := zv_v S.2.2.2.2.2
          obtain ⟨ST9, rfl, h9⟩ := zv_i h0
          obtain ⟨V, ST1, rfl, hV, h2⟩ := zv_v h9
          obtain ⟨A1, cA, F, rfl, g1, g2, g3, g4⟩ := zm_arq S.2.2.2.1 hg hV
          obtain ⟨B1, FS, rfl, k1, k2⟩ := zm_obj S.2.2.2.1 hci hgb hVb
          have hK := zm_K1 X.2.2.2.2.2.1 g3 g4
          rw [hty] at hK
          refine va_astq X.1 X.2.1 hK S.1 S.2.1 S.2.2.1 a 0 b c1 g1 rfl k1 hc (zm_vin_iff.mp hin) hd fun H1 locs1 k1' k2' k3' => ?_
          have hE := zm_E_set (e := .inl (cA, N, .inr (.inr (.inr (.inr (va_up F i.toNatClampNeg (some B1))))))) g1
          have hbl : b < 1000000 := by
            have h1 := (List.getElem?_eq_some_iff.mp k1).1
            have h3 := S.2.2.2.1.1
            have h4 := S.2.2.2.1.2.1
            rcases Nat.lt_or_ge b 1000000 with q | q
            · exact q
            · omega
          refine kk H1 locs1 _ ST1 hE k1' k2' k3' (zm_Hr_set S.2.2.2.1 g1 ⟨rfl, ?_, g3, g4⟩) rfl (zm_Vr_E hE h2)
          intro j
          by_cases hj : j = i.toNatClampNeg
          · subst hj
            simp only [va_up, if_true]
            exact ⟨hbl, _, k1, rfl⟩
          · simp only [va_up, hj, if_false]
            exact g2 j
        · cases hf
      · cases hf
    · cases hf
theorem zs_len (hd : decode (zm_cc M) pc = .ok (.arraylength, 1)) : zm_Snd M pc (zi_len (pc + 1)) := by
  refine zm_pure (fun ls st h x hh => ?_) ?_
  · unfold zi_len at hh
    repeat' split at hh
    all_goals first | (cases hh; done) | exact ⟨_, _, (Option.some.inj hh).symm⟩
  · intro sp L xs dC dI A p l e R s m args below meth c H locs cells slots Q ws LS ST ls st h pc' ls' st' X S hf kk
    unfold zi_len at hf
    split at hf
    · split at hf
      · rename_i a st0 _ u N f hg
        split at hf
        · cases hf
        · rename_i h8
          cases hf
          obtain ⟨V, ST1, rfl, hV, h2⟩ := zv_v S.2.2.2.2.2
          obtain ⟨A1, cA, rfl, g1, g2, g3⟩ := zm_arr S.2.2.2.1 h8 hg hV
          exact va_alen X.1 X.2.1 (zm_K1 X.2.2.2.2.2.1 g2 g3) S.1 a 0 g1 rfl rfl hd (kk _ ⟨rfl, h2⟩)
      · rename_i a st0 _ u N f hg
        cases hf
        obtain ⟨V, ST1, rfl, hV, h2⟩ := zv_v S.2.2.2.2.2
        obtain ⟨A1, cA, F, rfl, g1, g2, g3, g4⟩ := zm_arq S.2.2.2.1 hg hV
        exact va_alen X.1 X.2.1 (zm_K1 X.2.2.2.2.2.1 g3 g4) S.1 a 0 g1 rfl rfl hd (kk _ ⟨rfl, h2⟩)
      · cases hf
    · cases hf
theorem zs_new {ci i : Nat} {C : String} {T : u_T} {N : Nat} {ty : Nat → FieldType} (hd : decode (zm_cc M) pc = .ok (.new i, 3)) (hc : vwCl[ci]? = some (C, T, N)) (hN : (zm_df ci).length = N) (hin : ∀ w ∈ u_ws C T N, w ∈ zT) (hty : ∀ k, k < N → parseFieldDescriptor (T k).2.2.1 = some (ty k)) (h1 : Cond.classLink (zm_y M).cls i C ∈ zT) (h2 : Cond.instantiable C N ∈ zT) (h3 : Cond.initialized C ∈ zT) (hfs : ∀ j, j < N → defaultValue (ty j) = vp_V (zm_df ci) j) (hz : ∀ sp ws, zm_Vr sp ws (zm_df ci) (zm_df ci)) : zm_Snd M pc (zi_new ci (pc + 3)) := by
  have hx : ∀ {ls st : List Value} {h : zm_H} {x : zm_R}, zi_new ci (pc + 3) ls st h = some x → h.1 < 900000 ∧ x = .inl (pc + 3, ls, .ref h.1 :: st, zm_n h (zm_df ci).length (.inr (ci, zm_df ci))) := by
    intro ls st h x hh
    unfold zi_new at hh
    split at hh
    · rename_i hl
      exact ⟨hl, (Option.some.inj hh).symm⟩
    · cases hh
  refine ⟨fun hh => ?_, fun hh => ?_, fun hh => ?_, ?_⟩
  · obtain ⟨-, e⟩ := hx hh
    cases e
    exact ⟨Nat.le_add_right _ _, Nat.le_add_right _ _⟩
  · obtain ⟨-, e⟩ := hx hh
    cases e
  · obtain ⟨-, e⟩ := hx hh
    cases e
  · intro sp L xs dC dI A p l e R s m args below meth c H locs cells slots Q ws LS ST ls st h pc' ls' st' h' X S hf hc1 hc2 kk
    obtain ⟨hl, e⟩ := hx hf
    cases e
    have e1 : (zm_n h (zm_df ci).length (.inr (ci, zm_df ci))).1 - h.1 = 1 := by simp [zm_n]
    have e2 : (zm_n h (zm_df ci).length (.inr (ci, zm_df ci))).2.1 - h.2.1 = N := by simp [zm_n, hN]
    rw [e1] at hc1 kk
    rw [e2] at hc2 kk
    refine va_new X.1 X.2.1 X.2.2.2.2.1 hin ty hty X.2.2.2.1 (X.2.2.2.2.1 _ h1) (X.2.2.2.2.1 _ h2) (X.2.2.2.2.1 _ h3) X.2.2.2.2.2.1 S.1 S.2.1 S.2.2.1 X.2.2.2.2.2.2.2.1 hc hfs hc1 hc2 hd fun q H1 k1 k2 k3 => ?_
    have hE := zm_E_app ws [(q, .inr (ci, zm_df ci))]
    obtain ⟨lv, l1, l2⟩ := S.2.2.2.2.1
    refine kk H1 locs _ LS _ hE ⟨k1, k2, k3, zm_Hr_push S.2.2.2.1 (by omega) ⟨rfl, hz _ _⟩, ⟨lv, l1, zm_Lr_E hE l2⟩, ?_, zm_Vr_E hE S.2.2.2.2.2⟩
    exact zm_cv_lt (q := (q, .inr (ci, zm_df ci))) (by omega) (by rw [← S.2.2.2.1.1]; simp)
theorem zs_na {t : Nat} {at_ : ArrayType} (hd : decode (zm_cc M) pc = .ok (.newarray at_, 2)) (hty : newarray.typeOf at_ = zm_ty t) (hw : Cond.arrayClass (newarray.typeOf at_) ∈ zT) (hdef : defaultValue (zm_ty t) = .int 0) (hcb : componentBytes (zm_ty t) ≤ 8) : zm_Snd M pc (zi_na t (pc + 2)) := by
  have hx : ∀ {ls st : List Value} {h : zm_H} {x : zm_R}, zi_na t (pc + 2) ls st h = some x → ∃ k st0, st = .int k :: st0 ∧ (h.1 < 900000 ∧ ¬ k < 0 ∧ k.toNatClampNeg ≤ 1000) ∧ x = .inl (pc + 2, ls, .ref h.1 :: st0, zm_n h k.toNatClampNeg (.inl (t, k.toNatClampNeg, .inl (fun _ => 0)))) := by
    intro ls st h x hh
    unfold zi_na at hh
    split at hh
    · split at hh
      · rename_i hl
        exact ⟨_, _, rfl, hl, (Option.some.inj hh).symm⟩
      · cases hh
    · cases hh
  refine ⟨fun hh => ?_, fun hh => ?_, fun hh => ?_, ?_⟩
  · obtain ⟨_, _, -, -, e⟩ := hx hh
    cases e
    exact ⟨Nat.le_add_right _ _, Nat.le_add_right _ _⟩
  · obtain ⟨_, _, -, -, e⟩ := hx hh
    cases e
  · obtain ⟨_, _, -, -, e⟩ := hx hh
    cases e
  · intro sp L xs dC dI A p l e R s m args below meth c H locs cells slots Q ws LS ST ls st h pc' ls' st' h' X S hf hc1 hc2 kk
    obtain ⟨k, st0, rfl, ⟨hl, hk0, hk1⟩, e⟩ := hx hf
    cases e
    have e1 : (zm_n h k.toNatClampNeg (.inl (t, k.toNatClampNeg, .inl (fun _ => 0)))).1 - h.1 = 1 := by simp [zm_n]
    have e2 : (zm_n h k.toNatClampNeg (.inl (t, k.toNatClampNeg, .inl (fun _ => 0)))).2.1 - h.2.1 = k.toNatClampNeg := by simp [zm_n]
    rw [e1] at hc1 kk
    rw [e2] at hc2 kk
    obtain ⟨ST0, rfl, h0⟩ := zv_i S.2.2.2.2.2
    refine va_newa (atype := at_) (a0 := (k.toNatClampNeg, .inl (fun _ => 0))) X.1 X.2.1 (X.2.2.2.2.1 _ hw) hty X.2.2.2.2.2.1 S.1 S.2.1 S.2.2.1 X.2.2.2.2.2.2.2.1 (fun cA => by rw [hdef]; rfl) hk0 rfl (by have := Nat.mul_le_mul hk1 hcb; omega) hc1 hc2 hd fun q cA H1 k0 k1 k2 k3 => ?_
    have hE := zm_E_app ws [(q, .inl (cA, k.toNatClampNeg, .inl (fun _ => 0)))]
    obtain ⟨lv, l1, l2⟩ := S.2.2.2.2.1
    have hK := k0.2 0 (cA, zm_ty t) rfl
    refine kk H1 locs _ LS _ hE ⟨k1, k2, k3, zm_Hr_push S.2.2.2.1 (by omega) ⟨rfl, rfl, hK.1, hK.2⟩, ⟨lv, l1, zm_Lr_E hE l2⟩, ?_, zm_Vr_E hE h0⟩
    exact zm_cv_lt (q := (q, .inl (cA, k.toNatClampNeg, .inl (fun _ => 0)))) (by omega) (by rw [← S.2.2.2.1.1]; simp)
theorem zs_nq {t i : Nat} {C : String} (hd : decode (zm_cc M) pc = .ok (.anewarray i, 3)) (hty : zm_ty t = .object C) (hw : Cond.classLink (zm_y M).cls i C ∈ zT) (hao : ∀ {sp : Nat → Value} {L : Nat} {xs : Nat → Int32} {A : Nat → Prop} {s : State}, zm_St sp L xs A s → va_AO C s) : zm_Snd M pc (zi_nq t (pc + 3)) := by
  have hx : ∀ {ls st : List Value} {h : zm_H} {x : zm_R}, zi_nq t (pc + 3) ls st h = some x → ∃ k st0, st = .int k :: st0 ∧ (h.1 < 900000 ∧ ¬ k < 0 ∧ k.toNatClampNeg ≤ 1000) ∧ x = .inl (pc + 3, ls, .ref h.1 :: st0, zm_n h k.toNatClampNeg (.inl (t, k.toNatClampNeg, .inr (.inr (.inr (.inr (fun _ => none))))))) := by
    intro ls st h x hh
    unfold zi_nq at hh
    split at hh
    · split at hh
      · rename_i hl
        exact ⟨_, _, rfl, hl, (Option.some.inj hh).symm⟩
      · cases hh
    · cases hh
  refine ⟨fun hh => ?_, fun hh => ?_, fun hh => ?_, ?_⟩
  · obtain ⟨_, _, -, -, e⟩ := hx hh
    cases e
    exact ⟨Nat.le_add_right _ _, Nat.le_add_right _ _⟩
  · obtain ⟨_, _, -, -, e⟩ := hx hh
    cases e
  · obtain ⟨_, _, -, -, e⟩ := hx hh
    cases e
  · intro sp L xs dC dI A p l e R s m args below meth c H locs cells slots Q ws LS ST ls st h pc' ls' st' h' X S hf hc1 hc2 kk
    obtain ⟨k, st0, rfl, ⟨hl, hk0, hk1⟩, e⟩ := hx hf
    cases e
    have e1 : (zm_n h k.toNatClampNeg (.inl (t, k.toNatClampNeg, .inr (.inr (.inr (.inr (fun _ => none))))))).1 - h.1 = 1 := by simp [zm_n]
    have e2 : (zm_n h k.toNatClampNeg (.inl (t, k.toNatClampNeg, .inr (.inr (.inr (.inr (fun _ => none))))))).2.1 - h.2.1 = k.toNatClampNeg := by simp [zm_n]
    rw [e1] at hc1 kk
    rw [e2] at hc2 kk
    obtain ⟨ST0, rfl, h0⟩ := zv_i S.2.2.2.2.2
    refine va_newq X.1 X.2.1 X.2.2.2.1 (X.2.2.2.2.1 _ hw) (hao X.2.2.2.2.2.2.1) X.2.2.2.2.2.1 S.1 S.2.1 S.2.2.1 X.2.2.2.2.2.2.2.1 hk0 rfl (by omega) hc1 hc2 hd fun q cA H1 k0 k1 k2 k3 => ?_
    have hE := zm_E_app ws [(q, .inl (cA, k.toNatClampNeg, .inr (.inr (.inr (.inr (fun _ => none))))))]
    obtain ⟨lv, l1, l2⟩ := S.2.2.2.2.1
    have hK := k0.2 0 (cA, .object C) rfl
    rw [← hty] at hK
    refine kk H1 locs _ LS _ hE ⟨k1, k2, k3, zm_Hr_push S.2.2.2.1 (by omega) ⟨rfl, fun j => rfl, hK.1, hK.2⟩, ⟨lv, l1, zm_Lr_E hE l2⟩, ?_, zm_Vr_E hE h0⟩
    exact zm_cv_lt (q := (q, .inl (cA, k.toNatClampNeg, .inr (.inr (.inr (.inr (fun _ => none))))))) (by omega) (by rw [← S.2.2.2.1.1]; simp)
end ZS4
