theorem va_AOA.moved {ty : FieldType} {u U : State} (hvm : u.vm.Alike U.vm) (h : va_AOA ty u) : va_AOA ty U := by
  have h' : (Cond.arrayOver (.array ty)).holds #[] u none u [] = true := h
  simp only [Cond.holds, Cond.value, beq_iff_eq] at h'
  cases hc : u.vm.findClass (FieldType.array ty).toString with
  | none => simp [hc] at h'
  | some comp =>
    simp only [hc, Option.bind_some, Option.bind_eq_some_iff, Option.map_eq_some_iff] at h'
    obtain ⟨c, hi, k, hk, hb⟩ := h'
    obtain ⟨k', hk', he⟩ := hvm.2.2 _ _ hk
    have hi' : (U.vm.classes.findIdx? fun (x : Class) => match x.kind with | .array component _ => component == comp | _ => false) = some c := by
      have e1 := va_idx_bare U.vm comp
      have e2 := va_idx_bare u.vm comp
      have e3 : U.vm.bare = u.vm.bare := by first | exact hvm.bare_eq | exact hvm.bare_eq.symm
      rw [e3] at e1
      exact (e1.symm.trans e2).trans hi
    have f1 : U.vm.findClass (FieldType.array ty).toString = some comp := by rw [hvm.findClass]; exact hc
    have hkind : k'.kind = k.kind := by rw [he]
    show (Cond.arrayOver (.array ty)).holds #[] U none U [] = true
    simp only [Cond.holds, Cond.value, beq_iff_eq]
    rw [f1, Option.bind_some, Option.bind_eq_some_iff]
    refine ⟨c, hi', ?_⟩
    rw [Option.map_eq_some_iff]
    refine ⟨k', hk', ?_⟩
    rw [hkind]
    rw [hvm.findClass]
    exact hb
def zm_len : List Nat := [6, 6, 3, 4, 3]
def zm_six : List Nat := [74, 76, 78, 80, 62]
def zm_stx : List String := ["powder", "packed", "wet", "iced", "day"]
def zm_St (sp : Nat → Value) (L : Nat) (xs : Nat → Int32) (A : Nat → Prop) (s : State) : Prop :=
  ∃ (b t0 : Nat) (adK adV : Nat → Nat), (sp 0 = .ref b ∧ sp 1 = .ref t0 ∧ (∀ i, i < 5 → sp (2 + i) = .ref (adK i)) ∧ (∀ i, i < 5 → sp (7 + i) = .ref (adV i)) ∧ (∀ k, (sp k).category = 1)) ∧
   (va_X b L xs s s.heap ∧ b < s.heap.size ∧ ¬ A b) ∧
   (va_Z "SnowReign" "MOST_OF_FIGURE" "[I" (.ref t0) A s s.heap ∧ va_T .int t0 3 (fun j => .int (zm_most j)) A s s.heap) ∧
   (va_Z "java/lang/String" "COMPACT_STRINGS" "Z" (.int 1) A s s.heap ∧ va_Z "jdk/internal/util/Preconditions" "SIOOBE_FORMATTER" "Ljava/util/function/BiFunction;" (sp 12) A s s.heap) ∧
   (vk_S 5 zm_len zm_byt adK adV A s s.heap ∧ ∀ i, i < 5 → vk_R "SnowReign$TextReader" (zm_six.getD i 0) (zm_stx.getD i "") (adK i) s) ∧
   (va_AO "SnowReign$Figure" s ∧ va_AO "SnowReign$Row" s ∧ va_AO "SnowReign$Province" s ∧ va_AO "SnowReign$Sheet" s ∧ va_AOA .int s) ∧
   (va_Nw (.methodLinkNest RX2 17 yX0_init "SnowReign") s ∧ va_Nw (.methodLinkNest RX6 21 yX0_init "SnowReign") s)
theorem zm_St_call {sp : Nat → Value} {L : Nat} {xs : Nat → Int32} {A B : Nat → Prop} {s U : State} {H : Heap} {locs : List Loc} (h : zm_St sp L xs A s) (hW : s.WarmedH U.vm) (hU : U.heap = H) (hS : va_S A s.heap H locs) (hB : ∀ q, B q → A q) : zm_St sp L xs B U := by
  obtain ⟨b, t0, adK, adV, h1, ⟨x1, x2, x3⟩, ⟨z1, z2⟩, ⟨y1, y2⟩, ⟨k1, k2⟩, ⟨o1, o2, o3, o4, o5⟩, ⟨n1, n2⟩⟩ := h
  have hvm := hW.alike
  have hq : ∀ a : Nat, a < s.heap.size → ¬ A a → U.heap[a]? = s.heap[a]? := fun a h1 h2 => by rw [hU]; exact hS.2.1 a h1 h2
  refine ⟨b, t0, adK, adV, h1, ⟨(x1.moved hvm).kept (hq b x2 x3), ?_, fun z => x3 (hB _ z)⟩, ⟨((z1.moved hvm).kept hq).narrow hB, ((z2.moved hvm).kept hq).narrow hB⟩, ⟨((y1.moved hvm).kept hq).narrow hB, ((y2.moved hvm).kept hq).narrow hB⟩, ⟨((k1.moved hvm).kept hq).narrow hB, fun i hi => (k2 i hi).warm hW⟩, ⟨o1.moved hvm, o2.moved hvm, o3.moved hvm, o4.moved hvm, o5.moved hvm⟩, ⟨n1.warmM hW, n2.warmM hW⟩⟩
  rw [hU]
  exact Nat.lt_of_lt_of_le x2 hS.1
theorem zm_St_same {sp : Nat → Value} {L : Nat} {xs : Nat → Int32} {A : Nat → Prop} {s U : State} (h : zm_St sp L xs A s) (hv : U.vm = s.vm) (hU : U.heap = s.heap) : zm_St sp L xs A U := by
  obtain ⟨b, t0, adK, adV, h1, ⟨x1, x2, x3⟩, ⟨z1, z2⟩, ⟨y1, y2⟩, ⟨k1, k2⟩, ⟨o1, o2, o3, o4, o5⟩, ⟨n1, n2⟩⟩ := h
  have hvm : s.vm.Alike U.vm := by rw [hv]; exact Vm.Alike.refl s.vm
  refine ⟨b, t0, adK, adV, h1, ⟨?_, by rw [hU]; exact x2, x3⟩, ⟨?_, ?_⟩, ⟨?_, ?_⟩, ⟨?_, fun i hi => (k2 i hi).same hv⟩, ⟨o1.moved hvm, o2.moved hvm, o3.moved hvm, o4.moved hvm, o5.moved hvm⟩, ⟨?_, ?_⟩⟩
  · rw [hU]; exact x1.moved hvm
  · rw [hU]; exact z1.moved hvm
  · rw [hU]; exact z2.moved hvm
  · rw [hU]; exact y1.moved hvm
  · rw [hU]; exact y2.moved hvm
  · rw [hU]; exact k1.moved hvm
  · exact va_tabs rfl hv.symm n1
  · exact va_tabs rfl hv.symm n2
def zm_X (M : Nat) (sp : Nat → Value) (L : Nat) (xs : Nat → Int32) (dC : Nat → ClassId) (dI : Nat → Nat → Nat) (A : Nat → Prop) (p : Program) (R : Room) (s : State) (m : MethodId) (args : Array Value) (meth : Method) (c : Code) : Prop :=
  p.tables.exec = Jvm.exec ∧ c.code = zm_cc M ∧ c.maxLocals = zm_ml M ∧ s.vm.findClass (zm_y M).cls = some m.cls ∧ (∀ w ∈ zT, w.before args s = true) ∧ va_K (dC, dI) vwCl [] s ∧ zm_St sp L xs A s ∧ (∀ q, s.heap.size ≤ q → A q) ∧ ((zm_y M).name = "<init>" → meth.name = "<init>") ∧ 1 ≤ R.frames ∧ 60 ≤ R.locals
def zm_S (M : Nat) (sp : Nat → Value) (L : Nat) (xs : Nat → Int32) (dC : Nat → ClassId) (dI : Nat → Nat → Nat) (A : Nat → Prop) (s : State) (H : Heap) (locs : List Loc) (ws : va_W) (ls st : List Value) (h : zm_H) (LS : Array Slot) (ST : List Value) : Prop :=
  va_P (dC, dI) vwCl ws H ∧ va_D A ws ∧ va_S A s.heap H locs ∧ zm_Hr s sp L xs ws h ∧ (∃ lv, lv_has LS (zm_ml M) lv ∧ zm_Lr (zm_lg M) sp ws ls lv) ∧ zm_Vr sp ws st ST
def zm_Ret (M pc : Nat) (v : Option Value) (st : List Value) : Prop :=
  (∃ x : Int32, v = some (.int x) ∧ st = [.int x] ∧ decode (zm_cc M) pc = .ok (.ireturn, 1) ∧ ∃ ty, zm_rt M = some ty ∧ narrow ty (.int x) = .int x) ∨
  (∃ x : Int64, v = some (.long x) ∧ st = [.long x] ∧ decode (zm_cc M) pc = .ok (.lreturn, 1) ∧ zm_rt M = some .long) ∨
  (v = none ∧ st = [] ∧ decode (zm_cc M) pc = .ok (.return_, 1) ∧ zm_rt M = none)
def zm_Wd (M n : Nat) : Prop := Cond.code (zm_y M) (zm_cc M) (zm_ml M) (zm_rt M) ∈ zT ∧ Cond.initialized (zm_y M).cls ∈ zT ∧ ((zm_y M).cls ≠ "java/lang/invoke/MethodHandle" ∧ (zm_y M).cls ≠ "java/lang/invoke/VarHandle" ∧ (parseMethodDescriptor (zm_y M).desc).map (fun d => d.parameters.length) = some n) ∧ plainName (zm_y M).cls = true ∧ zm_ml M ≤ 41
def zm_Cl (M pc : Nat) (h : zm_H) (st : List Value) (k : zm_K) : Prop :=
  k.2.2.1 = pc + 3 ∧ zm_sm k.2.2.2.2 ≤ 8 ∧ ∃ idx, 
  ((∃ n, zm_Wd k.1 n ∧ k.2.1.length = n ∧ st = k.2.1.reverse ++ k.2.2.2.2 ∧ decode (zm_cc M) pc = .ok (.invokestatic idx, 3) ∧ Cond.methodLink (zm_y M).cls idx (zm_y k.1) ∈ zT ∧ Cond.static (zm_y k.1) ∈ zT) ∨
  (∃ n a as, zm_Wd k.1 n ∧ as.length = n ∧ k.2.1 = .ref a :: as ∧ st = as.reverse ++ .ref a :: k.2.2.2.2 ∧ (decode (zm_cc M) pc = .ok (.invokevirtual idx, 3) ∧ Cond.methodLink (zm_y M).cls idx (zm_y k.1) ∈ zT ∧ Cond.instanceMethod (zm_y k.1) ∈ zT ∧ Cond.selects (zm_y k.1).cls (zm_y k.1) (zm_y k.1) ∈ zT) ∧ ((∃ ci fs q, zm_g h a = .inr (ci, fs) ∧ ci < 50 ∧ vwCl[ci]? = some q ∧ q.1 = (zm_y k.1).cls) ∨ (1000002 ≤ a ∧ a < 1000007 ∧ (zm_y k.1).cls = "java/lang/String"))) ∨
  (∃ n a as, zm_Wd k.1 n ∧ as.length = n ∧ k.2.1 = .ref a :: as ∧ a < 1000000 ∧ st = as.reverse ++ .ref a :: k.2.2.2.2 ∧ zm_rt k.1 = none ∧ (zm_y k.1).name = "<init>" ∧ decode (zm_cc M) pc = .ok (.invokespecial idx, 3) ∧ Cond.instanceMethod (zm_y k.1) ∈ zT ∧ (Cond.methodLink (zm_y M).cls idx (zm_y k.1) ∈ zT ∨ (Cond.methodLinkNest (zm_y M).cls idx (zm_y k.1) "SnowReign" = .methodLinkNest RX2 17 yX0_init "SnowReign" ∨ Cond.methodLinkNest (zm_y M).cls idx (zm_y k.1) "SnowReign" = .methodLinkNest RX6 21 yX0_init "SnowReign"))))
def zm_Go (M pc : Nat) (f : zm_F) : Prop := ∀ {sp : Nat → Value} {L : Nat} {xs : Nat → Int32} {dC : Nat → ClassId} {dI : Nat → Nat → Nat} {A : Nat → Prop} {p : Program} {l : Launch} {e : Env} {R : Room} {s : State} {m : MethodId} {args : Array Value} {below : List Frame} {meth : Method} {c : Code} {H : Heap} {locs : List Loc} {cells slots : Nat} {Q : State → Prop} {ws : va_W} {LS : Array Slot} {ST ls st : List Value} {h : zm_H} {pc' : Nat} {ls' st' : List Value} {h' : zm_H},
  zm_X M sp L xs dC dI A p R s m args meth c → zm_S M sp L xs dC dI A s H locs ws ls st h LS ST → f ls st h = some (.inl (pc', ls', st', h')) → cells + (h'.1 - h.1) ≤ R.cells → slots + (h'.2.1 - h.2.1) ≤ R.slots →
  (∀ (H' : Heap) (locs' : List Loc) (ws' : va_W) (LS' : Array Slot) (ST' : List Value), zm_E ws ws' → zm_S M sp L xs dC dI A s H' locs' ws' ls' st' h' LS' ST' → W p l e R s m args below meth c H' locs' (cells + (h'.1 - h.1)) (slots + (h'.2.1 - h.2.1)) Q (F0 m pc' LS' ST')) →
  W p l e R s m args below meth c H locs cells slots Q (F0 m pc LS ST)
def zm_Mo (f : zm_F) : Prop := ∀ {ls st : List Value} {h : zm_H} {pc' : Nat} {ls' st' : List Value} {h' : zm_H}, f ls st h = some (.inl (pc', ls', st', h')) → h.1 ≤ h'.1 ∧ h.2.1 ≤ h'.2.1
def zm_Snd (M pc : Nat) (f : zm_F) : Prop := zm_Mo f ∧ (∀ {ls st : List Value} {h : zm_H} {v : Option Value}, f ls st h = some (.inr (.inl v)) → zm_Ret M pc v st) ∧ (∀ {ls st : List Value} {h : zm_H} {k : zm_K}, f ls st h = some (.inr (.inr k)) → zm_Cl M pc h st k) ∧ zm_Go M pc f
def zm_Gs (M pc : Nat) (f : zm_F) : Prop := ∀ {sp : Nat → Value} {L : Nat} {xs : Nat → Int32} {dC : Nat → ClassId} {dI : Nat → Nat → Nat} {A : Nat → Prop} {p : Program} {l : Launch} {e : Env} {R : Room} {s : State} {m : MethodId} {args : Array Value} {below : List Frame} {meth : Method} {c : Code} {H : Heap} {locs : List Loc} {cells slots : Nat} {Q : State → Prop} {ws : va_W} {LS : Array Slot} {ST ls st : List Value} {h : zm_H} {pc' : Nat} {ls' st' : List Value},
  zm_X M sp L xs dC dI A p R s m args meth c → zm_S M sp L xs dC dI A s H locs ws ls st h LS ST → f ls st h = some (.inl (pc', ls', st', h)) →
  (∀ (LS' : Array Slot) (ST' : List Value), (∃ lv, lv_has LS' (zm_ml M) lv ∧ zm_Lr (zm_lg M) sp ws ls' lv) → zm_Vr sp ws st' ST' → W p l e R s m args below meth c H locs cells slots Q (F0 m pc' LS' ST')) →
  W p l e R s m args below meth c H locs cells slots Q (F0 m pc LS ST)
theorem zm_simple {M pc : Nat} {f : zm_F} (hx : ∀ ls st h x, f ls st h = some x → ∃ pc' ls' st', x = .inl (pc', ls', st', h)) (hg : zm_Gs M pc f) : zm_Snd M pc f := by
  refine ⟨fun hh => ?_, fun hh => ?_, fun hh => ?_, ?_⟩
  · obtain ⟨_, _, _, e⟩ := hx _ _ _ _ hh
    cases e
    exact ⟨Nat.le_refl _, Nat.le_refl _⟩
  · obtain ⟨_, _, _, e⟩ := hx _ _ _ _ hh
    cases e
  · obtain ⟨_, _, _, e⟩ := hx _ _ _ _ hh
    cases e
  · intro sp L xs dC dI A p l e R s m args below meth c H locs cells slots Q ws LS ST ls st h pc' ls' st' h' X S hf h1 h2 kk
    obtain ⟨_, _, _, e⟩ := hx _ _ _ _ hf
    cases e
    refine hg X S hf fun LS' ST' g1 g2 => ?_
    have := kk H locs ws LS' ST' (zm_E_refl ws) ⟨S.1, S.2.1, S.2.2.1, S.2.2.2.1, g1, g2⟩
    rw [Nat.sub_self, Nat.sub_self, Nat.add_zero, Nat.add_zero] at this
    exact this
def zm_Gp (M pc : Nat) (f : zm_F) : Prop := ∀ {sp : Nat → Value} {L : Nat} {xs : Nat → Int32} {dC : Nat → ClassId} {dI : Nat → Nat → Nat} {A : Nat → Prop} {p : Program} {l : Launch} {e : Env} {R : Room} {s : State} {m : MethodId} {args : Array Value} {below : List Frame} {meth : Method} {c : Code} {H : Heap} {locs : List Loc} {cells slots : Nat} {Q : State → Prop} {ws : va_W} {LS : Array Slot} {ST ls st : List Value} {h : zm_H} {pc' : Nat} {ls' st' : List Value},
  zm_X M sp L xs dC dI A p R s m args meth c → zm_S M sp L xs dC dI A s H locs ws ls st h LS ST → f ls st h = some (.inl (pc', ls', st', h)) →
  (∀ ST' : List Value, zm_Vr sp ws st' ST' → W p l e R s m args below meth c H locs cells slots Q (F0 m pc' LS ST')) →
  W p l e R s m args below meth c H locs cells slots Q (F0 m pc LS ST)
theorem zm_pure {M pc : Nat} {f : zm_F} (hx : ∀ ls st h x, f ls st h = some x → ∃ pc' st', x = .inl (pc', ls, st', h)) (hg : zm_Gp M pc f) : zm_Snd M pc f := by
  refine zm_simple (fun ls st h x hh => ?_) ?_
  · obtain ⟨pc', st', e⟩ := hx _ _ _ _ hh
    exact ⟨pc', ls, st', e⟩
  · intro sp L xs dC dI A p l e R s m args below meth c H locs cells slots Q ws LS ST ls st h pc' ls' st' X S hf kk
    obtain ⟨_, _, e⟩ := hx _ _ _ _ hf
    cases e
    exact hg X S hf fun ST' g => kk LS ST' S.2.2.2.2.1 g
theorem zv_i {sp : Nat → Value} {ws : va_W} {x : Int32} {st ST : List Value} (h : zm_Vr sp ws (.int x :: st) ST) : ∃ ST', ST = .int x :: ST' ∧ zm_Vr sp ws st ST' := by
  match ST, h with
  | V :: ST', h => exact ⟨ST', by rw [← Option.some.inj h.1], h.2⟩
theorem zv_l {sp : Nat → Value} {ws : va_W} {x : Int64} {st ST : List Value} (h : zm_Vr sp ws (.long x :: st) ST) : ∃ ST', ST = .long x :: ST' ∧ zm_Vr sp ws st ST' := by
  match ST, h with
  | V :: ST', h => exact ⟨ST', by rw [← Option.some.inj h.1], h.2⟩
theorem zv_v {sp : Nat → Value} {ws : va_W} {v : Value} {st ST : List Value} (h : zm_Vr sp ws (v :: st) ST) : ∃ V ST', ST = V :: ST' ∧ zm_cv sp ws v = some V ∧ zm_Vr sp ws st ST' := by
  match ST, h with
  | V :: ST', h => exact ⟨V, ST', rfl, h.1, h.2⟩
theorem zv_n {sp : Nat → Value} {ws : va_W} {ST : List Value} (h : zm_Vr sp ws [] ST) : ST = [] := by
  match ST, h with
  | [], _ => rfl
