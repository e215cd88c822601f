def zm_Pu (M pc n : Nat) (v : Value) : Prop := ∀ {sp : Nat → Value} {L : Nat} {xs : Nat → Int32} {dC : Nat → ClassId} {dI : Nat → Nat → Nat} {A : Nat → Prop} {p : Program} {l : Launch} {e : Env} {R : Room} {s : State} {m : MethodId} {args : Array Value} {below : List Frame} {meth : Method} {c : Code} {H : Heap} {locs : List Loc} {cells slots : Nat} {Q : State → Prop} {ws : va_W} {LS : Array Slot} {ST : List Value},
  zm_X M sp L xs dC dI A p R s m args meth c → va_S A s.heap H locs → ∃ V, zm_cv sp ws v = some V ∧ (W p l e R s m args below meth c H locs cells slots Q (F0 m n LS (V :: ST)) → W p l e R s m args below meth c H locs cells slots Q (F0 m pc LS ST))
theorem zs_k {M pc n : Nat} {v : Value} (hp : zm_Pu M pc n v) : zm_Snd M pc (zi_k v n) := by
  refine zm_pure (fun ls st h x hh => ⟨n, v :: st, (Option.some.inj hh).symm⟩) ?_
  intro sp L xs dC dI A p l e R s m args below meth c H locs cells slots Q ws LS ST ls st h pc' ls' st' X S hf kk
  cases hf
  obtain ⟨V, h1, h2⟩ := hp (ws := ws) X S.2.2.1
  exact h2 (kk _ ⟨h1, S.2.2.2.2.2⟩)
section ZS
variable {M pc : Nat}
theorem zs_iconst {k : Int} {v : Int32} (hd : decode (zm_cc M) pc = .ok (.iconst k, 1)) (hv : Int32.ofInt k = v) : zm_Snd M pc (zi_k (.int v) (pc + 1)) := zs_k fun X _ => ⟨.int v, rfl, fun k => lv_iconst X.1 X.2.1 hd hv k⟩
theorem zs_bipush {k : Int} {v : Int32} (hd : decode (zm_cc M) pc = .ok (.bipush k, 2)) (hv : (Int8.ofInt k).toInt32 = v) : zm_Snd M pc (zi_k (.int v) (pc + 2)) := zs_k fun X _ => ⟨.int v, rfl, fun k => lv_bipush X.1 X.2.1 hd hv k⟩
theorem zs_sipush {k : Int} {v : Int32} (hd : decode (zm_cc M) pc = .ok (.sipush k, 3)) (hv : (Int16.ofInt k).toInt32 = v) : zm_Snd M pc (zi_k (.int v) (pc + 3)) := zs_k fun X _ => ⟨.int v, rfl, fun k => lv_sipush X.1 X.2.1 hd hv k⟩
theorem zs_lconst {k : Fin 2} {v : Int64} (hd : decode (zm_cc M) pc = .ok (.lconst k, 1)) (hv : Int64.ofNat (k : Nat) = v) : zm_Snd M pc (zi_k (.long v) (pc + 1)) := zs_k fun X _ => ⟨.long v, rfl, fun k => lv_lconst X.1 X.2.1 hd hv k⟩
theorem zs_ldc {i : Nat} {v : Int32} (hd : decode (zm_cc M) pc = .ok (.ldc i, 2)) (hw : Cond.constant (zm_y M).cls i v ∈ zT) : zm_Snd M pc (zi_k (.int v) (pc + 2)) := zs_k fun X _ => ⟨.int v, rfl, fun k => lv_ldc X.1 X.2.1 X.2.2.2.1 (X.2.2.2.2.1 _ hw) hd k⟩
theorem zs_ldcw {i : Nat} {v : Int32} (hd : decode (zm_cc M) pc = .ok (.ldc_w i, 3)) (hw : Cond.constant (zm_y M).cls i v ∈ zT) : zm_Snd M pc (zi_k (.int v) (pc + 3)) := zs_k fun X _ => ⟨.int v, rfl, fun k => lv_ldcw X.1 X.2.1 X.2.2.2.1 (X.2.2.2.2.1 _ hw) hd k⟩
theorem zs_ldc2 {i : Nat} {v : Int64} (hd : decode (zm_cc M) pc = .ok (.ldc2_w i, 3)) (hw : Cond.constantLong (zm_y M).cls i v ∈ zT) : zm_Snd M pc (zi_k (.long v) (pc + 3)) := zs_k fun X _ => ⟨.long v, rfl, fun k => lv_ldc2 X.1 X.2.1 X.2.2.2.1 (X.2.2.2.2.1 _ hw) hd k⟩
theorem zm_sp_cv (sp : Nat → Value) (ws : va_W) (k : Nat) (hk : k < 12) : zm_cv sp ws (.ref (1000000 + k)) = some (sp k) := by
  simp only [zm_cv]
  rw [if_pos (Nat.le_add_right _ _), if_pos (show 1000000 + k < 1000012 by omega), Nat.add_sub_cancel_left]
theorem zs_most {i : Nat} (hd : decode (zm_cc M) pc = .ok (.getstatic i, 3)) (hw : Cond.fieldLink (zm_y M).cls i "SnowReign" "MOST_OF_FIGURE" "[I" ∈ zT) : zm_Snd M pc (zi_k (.ref 1000001) (pc + 3)) := zs_k fun {sp _ _ _ _ _ _ _ _ _ _ _ _ _ _ _ _ _ _ _ _ ws _ _} X hS => by
  obtain ⟨b, t0, adK, adV, h1, -, ⟨z1, -⟩, -⟩ := X.2.2.2.2.2.2.1
  exact ⟨sp 1, zm_sp_cv sp ws 1 (by decide), fun k => va_gets X.1 X.2.1 z1 hS X.2.2.2.1 (X.2.2.2.2.1 _ hw) (fun _ h => h) hd (by rw [← h1.2.1]; exact k)⟩
theorem zs_compact {i : Nat} (hd : decode (zm_cc M) pc = .ok (.getstatic i, 3)) (hw : Cond.fieldLink (zm_y M).cls i "java/lang/String" "COMPACT_STRINGS" "Z" ∈ zT) : zm_Snd M pc (zi_k (.int 1) (pc + 3)) := zs_k fun X hS => by
  obtain ⟨b, t0, adK, adV, h1, -, -, ⟨z1, -⟩, -⟩ := X.2.2.2.2.2.2.1
  exact ⟨.int 1, rfl, fun k => va_gets X.1 X.2.1 z1 hS X.2.2.2.1 (X.2.2.2.2.1 _ hw) (fun _ h => h) hd k⟩
theorem zs_fmt {i : Nat} (hd : decode (zm_cc M) pc = .ok (.getstatic i, 3)) (hw : Cond.fieldLink (zm_y M).cls i "jdk/internal/util/Preconditions" "SIOOBE_FORMATTER" "Ljava/util/function/BiFunction;" ∈ zT) : zm_Snd M pc (zi_k (.retAddr 12) (pc + 3)) := zs_k fun {sp _ _ _ _ _ _ _ _ _ _ _ _ _ _ _ _ _ _ _ _ _ _ _} X hS => by
  obtain ⟨b, t0, adK, adV, h1, -, -, ⟨-, z1⟩, -⟩ := X.2.2.2.2.2.2.1
  exact ⟨sp 12, rfl, fun k => va_gets X.1 X.2.1 z1 hS X.2.2.2.1 (X.2.2.2.2.1 _ hw) (fun _ h => h) hd k⟩
theorem zs_str {i : Nat} (j : Nat) (hj : j < 5) (hi : zm_six.getD j 0 = i) (hM : (zm_y M).cls = "SnowReign$TextReader") (hd : decode (zm_cc M) pc = .ok (.ldc i, 2)) : zm_Snd M pc (zi_k (.ref (1000000 + (2 + j))) (pc + 2)) := zs_k fun {sp _ _ _ _ _ _ _ _ _ _ _ _ _ _ _ _ _ _ _ _ ws _ _} X hS => by
  obtain ⟨b, t0, adK, adV, h1, -, -, -, ⟨-, k2⟩, -⟩ := X.2.2.2.2.2.2.1
  refine ⟨sp (2 + j), zm_sp_cv sp ws (2 + j) (by omega), fun k => ?_⟩
  have hr := k2 j hj
  rw [hi] at hr
  exact va_ldcS X.1 X.2.1 (by rw [← hM]; exact X.2.2.2.1) hr hd (by rw [← h1.2.2.1 j hj]; exact k)
theorem zl_get {M : Nat} {sp : Nat → Value} {ws : va_W} {ls : List Value} {LS : Array Slot} (hl : ∃ lv, lv_has LS (zm_ml M) lv ∧ zm_Lr (zm_lg M) sp ws ls lv) {i : Nat} {v : Value} (h : ls[i]? = some v) (hv : v ≠ .null) : ∃ V, zm_cv sp ws v = some V ∧ LS[i]? = some (.val V) := by
  obtain ⟨lv, h1, h2⟩ := hl
  obtain ⟨V, g1, g2⟩ := h2.1 i v h hv
  exact ⟨V, g1, h1.2.2 _ g2⟩
theorem zs_il {i n : Nat} (hr : ∀ {p : Program} {l : Launch} {e : Env} {R : Room} {s : State} {m : MethodId} {args : Array Value} {below : List Frame} {meth : Method} {c : Code} {H : Heap} {locs : List Loc} {cells slots : Nat} {Q : State → Prop} {LS : Array Slot} {ST : List Value} {x : Int32}, p.tables.exec = Jvm.exec → c.code = zm_cc M → LS[i]? = some (.val (.int x)) → W p l e R s m args below meth c H locs cells slots Q (F0 m n LS (.int x :: ST)) → W p l e R s m args below meth c H locs cells slots Q (F0 m pc LS ST)) : zm_Snd M pc (zi_il i n) := by
  refine zm_pure (fun ls st h x hh => ?_) ?_
  · unfold zi_il at hh
    split at hh
    · exact ⟨_, _, (Option.some.inj hh).symm⟩
    · cases hh
  · intro sp L xs dC dI A p l e R s m args below meth c H locs cells slots Q ws LS ST ls st h pc' ls' st' X S hf kk
    unfold zi_il at hf
    split at hf
    · rename_i x hx
      cases hf
      obtain ⟨V, g1, g2⟩ := zl_get S.2.2.2.2.1 hx (fun z => by cases z)
      cases g1
      exact hr X.1 X.2.1 g2 (kk _ ⟨rfl, S.2.2.2.2.2⟩)
    · cases hf
theorem zs_il_n {k : Fin 4} (hd : decode (zm_cc M) pc = .ok (.iload_n k, 1)) : zm_Snd M pc (zi_il k (pc + 1)) := zs_il fun h1 h2 h3 h4 => lv_iload_n h1 h2 hd rfl h3 h4
theorem zs_il_w {i : Nat} (hd : decode (zm_cc M) pc = .ok (.iload i, 2)) : zm_Snd M pc (zi_il i (pc + 2)) := zs_il fun h1 h2 h3 h4 => lv_iload h1 h2 hd h3 h4
theorem zs_ll {i n : Nat} (hr : ∀ {p : Program} {l : Launch} {e : Env} {R : Room} {s : State} {m : MethodId} {args : Array Value} {below : List Frame} {meth : Method} {c : Code} {H : Heap} {locs : List Loc} {cells slots : Nat} {Q : State → Prop} {LS : Array Slot} {ST : List Value} {x : Int64}, p.tables.exec = Jvm.exec → c.code = zm_cc M → LS[i]? = some (.val (.long x)) → W p l e R s m args below meth c H locs cells slots Q (F0 m n LS (.long x :: ST)) → W p l e R s m args below meth c H locs cells slots Q (F0 m pc LS ST)) : zm_Snd M pc (zi_ll i n) := by
  refine zm_pure (fun ls st h x hh => ?_) ?_
  · unfold zi_ll at hh
    split at hh
    · exact ⟨_, _, (Option.some.inj hh).symm⟩
    · cases hh
  · intro sp L xs dC dI A p l e R s m args below meth c H locs cells slots Q ws LS ST ls st h pc' ls' st' X S hf kk
    unfold zi_ll at hf
    split at hf
    · rename_i x hx
      cases hf
      obtain ⟨V, g1, g2⟩ := zl_get S.2.2.2.2.1 hx (fun z => by cases z)
      cases g1
      exact hr X.1 X.2.1 g2 (kk _ ⟨rfl, S.2.2.2.2.2⟩)
    · cases hf
theorem zs_ll_n {k : Fin 4} (hd : decode (zm_cc M) pc = .ok (.lload_n k, 1)) : zm_Snd M pc (zi_ll k (pc + 1)) := zs_ll fun h1 h2 h3 h4 => lv_lload_n h1 h2 hd rfl h3 h4
theorem zs_ll_w {i : Nat} (hd : decode (zm_cc M) pc = .ok (.lload i, 2)) : zm_Snd M pc (zi_ll i (pc + 2)) := zs_ll fun h1 h2 h3 h4 => lv_lload h1 h2 hd h3 h4
theorem zm_St_spr {sp : Nat → Value} {L : Nat} {xs : Nat → Int32} {A : Nat → Prop} {s : State} (h : zm_St sp L xs A s) : ∀ k, k < 12 → ∃ a, sp k = .ref a := by
  obtain ⟨b, t0, adK, adV, ⟨h1, h2, h3, h4, -⟩, -⟩ := h
  intro k hk
  rcases Nat.lt_or_ge k 2 with q | q
  · rcases (show k = 0 ∨ k = 1 by omega) with rfl | rfl
    · exact ⟨_, h1⟩
    · exact ⟨_, h2⟩
  · rcases Nat.lt_or_ge k 7 with q2 | q2
    · exact ⟨adK (k - 2), by rw [← h3 (k - 2) (by omega)]; congr 1; omega⟩
    · exact ⟨adV (k - 7), by rw [← h4 (k - 7) (by omega)]; congr 1; omega⟩
theorem zm_ref_cv {sp : Nat → Value} {L : Nat} {xs : Nat → Int32} {A : Nat → Prop} {s : State} (h : zm_St sp L xs A s) {ws : va_W} {k : Nat} {V : Value} (hv : zm_cv sp ws (.ref k) = some V) : ∃ a, V = .ref a := by
  simp only [zm_cv] at hv
  by_cases hk : 1000000 ≤ k
  · rw [if_pos hk] at hv
    by_cases hk2 : k < 1000012
    · rw [if_pos hk2] at hv
      obtain ⟨a, ha⟩ := zm_St_spr h (k - 1000000) (by omega)
      exact ⟨a, by rw [← Option.some.inj hv, ha]⟩
    · rw [if_neg hk2] at hv
      cases hv
  · rw [if_neg hk] at hv
    obtain ⟨q, -, h2⟩ := Option.map_eq_some_iff.mp hv
    exact ⟨q.1, h2.symm⟩
theorem zs_al {i n : Nat} (hr : ∀ {p : Program} {l : Launch} {e : Env} {R : Room} {s : State} {m : MethodId} {args : Array Value} {below : List Frame} {meth : Method} {c : Code} {H : Heap} {locs : List Loc} {cells slots : Nat} {Q : State → Prop} {LS : Array Slot} {ST : List Value} {x : Nat}, p.tables.exec = Jvm.exec → c.code = zm_cc M → LS[i]? = some (.val (.ref x)) → W p l e R s m args below meth c H locs cells slots Q (F0 m n LS (.ref x :: ST)) → W p l e R s m args below meth c H locs cells slots Q (F0 m pc LS ST)) : zm_Snd M pc (zi_al i n) := by
  refine zm_pure (fun ls st h x hh => ?_) ?_
  · unfold zi_al at hh
    split at hh
    · exact ⟨_, _, (Option.some.inj hh).symm⟩
    · cases hh
  · intro sp L xs dC dI A p l e R s m args below meth c H locs cells slots Q ws LS ST ls st h pc' ls' st' X S hf kk
    unfold zi_al at hf
    split at hf
    · rename_i x hx
      cases hf
      obtain ⟨V, g1, g2⟩ := zl_get S.2.2.2.2.1 hx (fun z => by cases z)
      obtain ⟨a, rfl⟩ := zm_ref_cv X.2.2.2.2.2.2.1 g1
      exact hr X.1 X.2.1 g2 (kk _ ⟨g1, S.2.2.2.2.2⟩)
    · cases hf
theorem zs_al_n {k : Fin 4} (hd : decode (zm_cc M) pc = .ok (.aload_n k, 1)) : zm_Snd M pc (zi_al k (pc + 1)) := zs_al fun h1 h2 h3 h4 => lv_aload_n h1 h2 hd rfl h3 h4
theorem zs_al_w {i : Nat} (hd : decode (zm_cc M) pc = .ok (.aload i, 2)) : zm_Snd M pc (zi_al i (pc + 2)) := zs_al fun h1 h2 h3 h4 => lv_aload h1 h2 hd h3 h4
theorem zl_set {M : Nat} {sp : Nat → Value} {ws : va_W} {ls : List Value} {lv : List (Nat × Value)} (h : zm_Lr (zm_lg M) sp ws ls lv) {i : Nat} {v V : Value} (hv : zm_cv sp ws v = some V) (hc : ¬ V.category = 2) (hi : ∀ j, j + 1 = i → zm_lg M j = false) : zm_Lr (zm_lg M) sp ws (ls.set i v) ((i, V) :: lv.filter (fun q => !(q.1 == i) && !(q.1 + 1 == i && q.2.category == 2))) := by
  refine ⟨fun j w hj hw => ?_, fun q hq hq2 => ?_⟩
  · by_cases e : j = i
    · subst e
      have hl : j < ls.length := by
        have := (List.getElem?_eq_some_iff.mp hj).1
        rwa [List.length_set] at this
      rw [List.getElem?_set_self hl] at hj
      cases hj
      exact ⟨V, hv, List.mem_cons_self⟩
    · rw [List.getElem?_set_ne (fun z => e z.symm)] at hj
      obtain ⟨W', g1, g2⟩ := h.1 j w hj hw
      refine ⟨W', g1, List.mem_cons_of_mem _ (List.mem_filter.mpr ⟨g2, ?_⟩)⟩
      simp only [Bool.and_eq_true, Bool.not_eq_true', beq_eq_false_iff_ne, ne_eq, Bool.and_eq_false_iff]
      refine ⟨e, ?_⟩
      by_cases e2 : j + 1 = i
      · right
        intro z
        have := h.2 _ g2 z
        rw [hi j e2] at this
        cases this
      · exact Or.inl e2
  · rcases List.mem_cons.mp hq with rfl | hq
    · exact absurd hq2 hc
    · exact h.2 q (List.mem_filter.mp hq).1 hq2
theorem zl_setL {M : Nat} {sp : Nat → Value} {ws : va_W} {ls : List Value} {lv : List (Nat × Value)} (h : zm_Lr (zm_lg M) sp ws ls lv) {i : Nat} {x : Int64} (hi : ∀ j, j + 1 = i → zm_lg M j = false) (hg : zm_lg M i = true) : zm_Lr (zm_lg M) sp ws ((ls.set i (.long x)).set (i + 1) .null) ((i, .long x) :: lv.filter (fun q => !(q.1 == i) && (!(q.1 == i + 1) && !(q.1 + 1 == i && q.2.category == 2)))) := by
  refine ⟨fun j w hj hw => ?_, fun q hq hq2 => ?_⟩
  · by_cases e1 : j = i + 1
    · subst e1
      have hl : i + 1 < (ls.set i (.long x)).length := by
        have := (List.getElem?_eq_some_iff.mp hj).1
        rwa [List.length_set] at this
      rw [List.getElem?_set_self hl] at hj
      cases hj
      exact absurd rfl hw
    · rw [List.getElem?_set_ne (fun z => e1 z.symm)] at hj
      by_cases e : j = i
      · subst e
        have hl : j < ls.length := by
          have := (List.getElem?_eq_some_iff.mp hj).1
          rwa [List.length_set] at this
        rw [List.getElem?_set_self hl] at hj
        cases hj
        exact ⟨.long x, rfl, List.mem_cons_self⟩
      · rw [List.getElem?_set_ne (fun z => e z.symm)] at hj
        obtain ⟨W', g1, g2⟩ := h.1 j w hj hw
        refine ⟨W', g1, List.mem_cons_of_mem _ (List.mem_filter.mpr ⟨g2, ?_⟩)⟩
        simp only [Bool.and_eq_true, Bool.not_eq_true', beq_eq_false_iff_ne, ne_eq, Bool.and_eq_false_iff]
        refine ⟨e, e1, ?_⟩
        by_cases e2 : j + 1 = i
        · right
          intro z
          have := h.2 _ g2 z
          rw [hi j e2] at this
          cases this
        · exact Or.inl e2
  · rcases List.mem_cons.mp hq with rfl | hq
    · exact hg
    · exact h.2 q (List.mem_filter.mp hq).1 hq2
def zm_pv (M i : Nat) : Bool := match i with
  | 0 => true
  | j + 1 => !(zm_lg M j)
theorem zm_pv_of {M i : Nat} (h : zm_pv M i = true) : ∀ j, j + 1 = i → zm_lg M j = false := by
  intro j hj
  subst hj
  simpa [zm_pv] using h
theorem zs_is {i n : Nat} (hp : zm_pv M i = true) (hr : ∀ {p : Program} {l : Launch} {e : Env} {R : Room} {s : State} {m : MethodId} {args : Array Value} {below : List Frame} {meth : Method} {c : Code} {H : Heap} {locs : List Loc} {cells slots : Nat} {Q : State → Prop} {LS : Array Slot} {ST : List Value} {x : Int32} {lv : List (Nat × Value)}, p.tables.exec = Jvm.exec → c.code = zm_cc M → lv_has LS (zm_ml M) lv → (∀ LS' : Array Slot, lv_has LS' (zm_ml M) ((i, .int x) :: lv.filter (fun q => !(q.1 == i) && !(q.1 + 1 == i && q.2.category == 2))) → W p l e R s m args below meth c H locs cells slots Q (F0 m n LS' ST)) → W p l e R s m args below meth c H locs cells slots Q (F0 m pc LS (.int x :: ST))) : zm_Snd M pc (zi_is i n) := by
  refine zm_simple (fun ls st h x hh => ?_) ?_
  · unfold zi_is at hh
    split at hh
    · exact ⟨_, _, _, (Option.some.inj hh).symm⟩
    · cases hh
  · intro sp L xs dC dI A p l e R s m args below meth c H locs cells slots Q ws LS ST ls st h pc' ls' st' X S hf kk
    unfold zi_is at hf
    split at hf
    · rename_i x st0
      cases hf
      obtain ⟨ST0, rfl, h2⟩ := zv_i S.2.2.2.2.2
      obtain ⟨lv, g1, g2⟩ := S.2.2.2.2.1
      exact hr X.1 X.2.1 g1 fun LS' hl => kk LS' ST0 ⟨_, hl, zl_set g2 rfl (fun z => by cases z) (zm_pv_of hp)⟩ h2
    · cases hf
theorem zs_is_n {k : Fin 4} (hd : decode (zm_cc M) pc = .ok (.istore_n k, 1)) (hp : zm_pv M k = true) (hn : (k : Nat) < zm_ml M) : zm_Snd M pc (zi_is k (pc + 1)) := zs_is hp fun h1 h2 h3 h4 => lv_istore_n h1 h2 hd rfl h3 hn rfl h4
theorem zs_is_w {i : Nat} (hd : decode (zm_cc M) pc = .ok (.istore i, 2)) (hp : zm_pv M i = true) (hn : i < zm_ml M) : zm_Snd M pc (zi_is i (pc + 2)) := zs_is hp fun h1 h2 h3 h4 => lv_istore h1 h2 hd h3 hn rfl h4
theorem zs_as {i n : Nat} (hp : zm_pv M i = true) (hr : ∀ {p : Program} {l : Launch} {e : Env} {R : Room} {s : State} {m : MethodId} {args : Array Value} {below : List Frame} {meth : Method} {c : Code} {H : Heap} {locs : List Loc} {cells slots : Nat} {Q : State → Prop} {LS : Array Slot} {ST : List Value} {x : Nat} {lv : List (Nat × Value)}, p.tables.exec = Jvm.exec → c.code = zm_cc M → lv_has LS (zm_ml M) lv → (∀ LS' : Array Slot, lv_has LS' (zm_ml M) ((i, .ref x) :: lv.filter (fun q => !(q.1 == i) && !(q.1 + 1 == i && q.2.category == 2))) → W p l e R s m args below meth c H locs cells slots Q (F0 m n LS' ST)) → W p l e R s m args below meth c H locs cells slots Q (F0 m pc LS (.ref x :: ST))) : zm_Snd M pc (zi_as i n) := by
  refine zm_simple (fun ls st h x hh => ?_) ?_
  · unfold zi_as at hh
    split at hh
    · exact ⟨_, _, _, (Option.some.inj hh).symm⟩
    · cases hh
  · intro sp L xs dC dI A p l e R s m args below meth c H locs cells slots Q ws LS ST ls st h pc' ls' st' X S hf kk
    unfold zi_as at hf
    split at hf
    · rename_i x st0
      cases hf
      obtain ⟨V, ST0, rfl, hV, h2⟩ := zv_v S.2.2.2.2.2
      obtain ⟨a, rfl⟩ := zm_ref_cv X.2.2.2.2.2.2.1 hV
      obtain ⟨lv, g1, g2⟩ := S.2.2.2.2.1
      exact hr X.1 X.2.1 g1 fun LS' hl => kk LS' ST0 ⟨_, hl, zl_set g2 hV (fun z => by cases z) (zm_pv_of hp)⟩ h2
    · cases hf
theorem zs_as_n {k : Fin 4} (hd : decode (zm_cc M) pc = .ok (.astore_n k, 1)) (hp : zm_pv M k = true) (hn : (k : Nat) < zm_ml M) : zm_Snd M pc (zi_as k (pc + 1)) := zs_as hp fun h1 h2 h3 h4 => lv_astore_n h1 h2 hd rfl h3 hn rfl h4
theorem zs_as_w {i : Nat} (hd : decode (zm_cc M) pc = .ok (.astore i, 2)) (hp : zm_pv M i = true) (hn : i < zm_ml M) : zm_Snd M pc (zi_as i (pc + 2)) := zs_as hp fun h1 h2 h3 h4 => lv_astore h1 h2 hd h3 hn rfl h4
theorem zs_ls {i n : Nat} (hp : zm_pv M i = true) (hg : zm_lg M i = true) (hr : ∀ {p : Program} {l : Launch} {e : Env} {R : Room} {s : State} {m : MethodId} {args : Array Value} {below : List Frame} {meth : Method} {c : Code} {H : Heap} {locs : List Loc} {cells slots : Nat} {Q : State → Prop} {LS : Array Slot} {ST : List Value} {x : Int64} {lv : List (Nat × Value)}, p.tables.exec = Jvm.exec → c.code = zm_cc M → lv_has LS (zm_ml M) lv → (∀ LS' : Array Slot, lv_has LS' (zm_ml M) ((i, .long x) :: lv.filter (fun q => !(q.1 == i) && (!(q.1 == i + 1) && !(q.1 + 1 == i && q.2.category == 2)))) → W p l e R s m args below meth c H locs cells slots Q (F0 m n LS' ST)) → W p l e R s m args below meth c H locs cells slots Q (F0 m pc LS (.long x :: ST))) : zm_Snd M pc (zi_ls i n) := by
  refine zm_simple (fun ls st h x hh => ?_) ?_
  · unfold zi_ls at hh
    split at hh
    · exact ⟨_, _, _, (Option.some.inj hh).symm⟩
    · cases hh
  · intro sp L xs dC dI A p l e R s m args below meth c H locs cells slots Q ws LS ST ls st h pc' ls' st' X S hf kk
    unfold zi_ls at hf
    split at hf
    · rename_i x st0
      cases hf
      obtain ⟨ST0, rfl, h2⟩ := zv_l S.2.2.2.2.2
      obtain ⟨lv, g1, g2⟩ := S.2.2.2.2.1
      exact hr X.1 X.2.1 g1 fun LS' hl => kk LS' ST0 ⟨_, hl, zl_setL g2 (zm_pv_of hp) hg⟩ h2
    · cases hf
theorem zs_ls_n {k : Fin 4} (hd : decode (zm_cc M) pc = .ok (.lstore_n k, 1)) (hp : zm_pv M k = true) (hg : zm_lg M k = true) (hn : (k : Nat) + 1 < zm_ml M) : zm_Snd M pc (zi_ls k (pc + 1)) := zs_ls hp hg fun h1 h2 h3 h4 => lv_lstore_n h1 h2 hd rfl h3 hn rfl h4
theorem zs_ls_w {i : Nat} (hd : decode (zm_cc M) pc = .ok (.lstore i, 2)) (hp : zm_pv M i = true) (hg : zm_lg M i = true) (hn : i + 1 < zm_ml M) : zm_Snd M pc (zi_ls i (pc + 2)) := zs_ls hp hg fun h1 h2 h3 h4 => lv_lstore h1 h2 hd h3 hn rfl h4
theorem zs_inc {i : Nat} {k : Int} {v : Int32} (hd : decode (zm_cc M) pc = .ok (.iinc i k, 3)) (hv : Int32.ofInt k = v) (hp : zm_pv M i = true) (hn : i < zm_ml M) : zm_Snd M pc (zi_inc i v (pc + 3)) := by
  refine zm_simple (fun ls st h x hh => ?_) ?_
  · unfold zi_inc at hh
    split at hh
    · exact ⟨_, _, _, (Option.some.inj hh).symm⟩
    · cases hh
  · intro sp L xs dC dI A p l e R s m args below meth c H locs cells slots Q ws LS ST ls st h pc' ls' st' X S hf kk
    unfold zi_inc at hf
    split at hf
    · rename_i x hx
      cases hf
      obtain ⟨lv, g1, g2⟩ := S.2.2.2.2.1
      obtain ⟨V, q1, q2⟩ := g2.1 i _ hx (fun z => by cases z)
      cases q1
      obtain ⟨j, hj⟩ := List.getElem?_of_mem q2
      exact lv_iinc (v := x + v) X.1 X.2.1 hd g1 hj (by rw [hv]) hn rfl fun LS' hl => kk LS' ST ⟨_, hl, zl_set g2 rfl (fun z => by cases z) (zm_pv_of hp)⟩ S.2.2.2.2.2
    · cases hf
end ZS
