section ZS2
variable {M pc : Nat}
theorem zs_bin {op : Int32 → Int32 → Int32} {n : Nat} (hr : ∀ {p : Program} {l : Launch} {e : Env} {R : Room} {s : State} {m : MethodId} {args : Array Value} {below : List Frame} {meth : Method} {c : Code} {H : Heap} {locs : List Loc} {cells slots : Nat} {Q : State → Prop} {LS : Array Slot} {ST : List Value} {x y : Int32}, p.tables.exec = Jvm.exec → c.code = zm_cc M → W p l e R s m args below meth c H locs cells slots Q (F0 m n LS (.int (op x y) :: ST)) → W p l e R s m args below meth c H locs cells slots Q (F0 m pc LS (.int y :: .int x :: ST))) : zm_Snd M pc (zi_bin op n) := by
  refine zm_pure (fun ls st h x hh => ?_) ?_
  · unfold zi_bin at hh
    split at hh
    · exact ⟨_, _, (Option.some.inj hh).symm⟩
    · cases hh
  · intro sp L xs dC dI A p l e R s m args below meth c H locs cells slots Q ws LS ST ls st h pc' ls' st' X S hf kk
    unfold zi_bin at hf
    split at hf
    · cases hf
      obtain ⟨ST1, rfl, h2⟩ := zv_i S.2.2.2.2.2
      obtain ⟨ST2, rfl, h3⟩ := zv_i h2
      exact hr X.1 X.2.1 (kk _ ⟨rfl, h3⟩)
    · cases hf
theorem zs_iadd (hd : decode (zm_cc M) pc = .ok (.iadd, 1)) : zm_Snd M pc (zi_bin (· + ·) (pc + 1)) := zs_bin fun h1 h2 k => lv_iadd h1 h2 hd k
theorem zs_isub (hd : decode (zm_cc M) pc = .ok (.isub, 1)) : zm_Snd M pc (zi_bin (· - ·) (pc + 1)) := zs_bin fun h1 h2 k => lv_isub h1 h2 hd k
theorem zs_imul (hd : decode (zm_cc M) pc = .ok (.imul, 1)) : zm_Snd M pc (zi_bin (· * ·) (pc + 1)) := zs_bin fun h1 h2 k => lv_imul h1 h2 hd k
theorem zs_iand (hd : decode (zm_cc M) pc = .ok (.iand, 1)) : zm_Snd M pc (zi_bin (· &&& ·) (pc + 1)) := zs_bin fun h1 h2 k => lv_iand h1 h2 hd k
theorem zs_ior (hd : decode (zm_cc M) pc = .ok (.ior, 1)) : zm_Snd M pc (zi_bin (· ||| ·) (pc + 1)) := zs_bin fun h1 h2 k => lv_ior h1 h2 hd k
theorem zs_ishl (hd : decode (zm_cc M) pc = .ok (.ishl, 1)) : zm_Snd M pc (zi_bin (fun x y => x <<< (y &&& 31)) (pc + 1)) := zs_bin fun h1 h2 k => lv_ishl h1 h2 hd k
theorem zs_ishr (hd : decode (zm_cc M) pc = .ok (.ishr, 1)) : zm_Snd M pc (zi_bin (fun x y => x >>> (y &&& 31)) (pc + 1)) := zs_bin fun h1 h2 k => lv_ishr h1 h2 hd k
theorem zs_iushr (hd : decode (zm_cc M) pc = .ok (.iushr, 1)) : zm_Snd M pc (zi_bin (fun x y => (x.toUInt32 >>> (y.toUInt32 &&& Int32.toUInt32 31)).toInt32) (pc + 1)) := zs_bin fun h1 h2 k => lv_iushr h1 h2 hd rfl k
theorem zs_idiv (hd : decode (zm_cc M) pc = .ok (.idiv, 1)) : zm_Snd M pc (zi_div (pc + 1)) := by
  refine zm_pure (fun ls st h x hh => ?_) ?_
  · unfold zi_div at hh
    split at hh
    · split at hh
      · cases hh
      · exact ⟨_, _, (Option.some.inj hh).symm⟩
    · cases hh
  · intro sp L xs dC dI A p l e R s m args below meth c H locs cells slots Q ws LS ST ls st h pc' ls' st' X S hf kk
    unfold zi_div at hf
    split at hf
    · split at hf
      · cases hf
      · rename_i hy
        cases hf
        obtain ⟨ST1, rfl, h2⟩ := zv_i S.2.2.2.2.2
        obtain ⟨ST2, rfl, h3⟩ := zv_i h2
        exact lv_idiv X.1 X.2.1 hd hy (kk _ ⟨rfl, h3⟩)
    · cases hf
theorem zs_irem (hd : decode (zm_cc M) pc = .ok (.irem, 1)) : zm_Snd M pc (zi_rem (pc + 1)) := by
  refine zm_pure (fun ls st h x hh => ?_) ?_
  · unfold zi_rem at hh
    split at hh
    · split at hh
      · cases hh
      · exact ⟨_, _, (Option.some.inj hh).symm⟩
    · cases hh
  · intro sp L xs dC dI A p l e R s m args below meth c H locs cells slots Q ws LS ST ls st h pc' ls' st' X S hf kk
    unfold zi_rem at hf
    split at hf
    · split at hf
      · cases hf
      · rename_i hy
        cases hf
        obtain ⟨ST1, rfl, h2⟩ := zv_i S.2.2.2.2.2
        obtain ⟨ST2, rfl, h3⟩ := zv_i h2
        exact lv_irem X.1 X.2.1 hd hy (kk _ ⟨rfl, h3⟩)
    · cases hf
theorem zs_un {op : Int32 → Int32} {n : Nat} (hr : ∀ {p : Program} {l : Launch} {e : Env} {R : Room} {s : State} {m : MethodId} {args : Array Value} {below : List Frame} {meth : Method} {c : Code} {H : Heap} {locs : List Loc} {cells slots : Nat} {Q : State → Prop} {LS : Array Slot} {ST : List Value} {x : Int32}, p.tables.exec = Jvm.exec → c.code = zm_cc M → W p l e R s m args below meth c H locs cells slots Q (F0 m n LS (.int (op x) :: ST)) → W p l e R s m args below meth c H locs cells slots Q (F0 m pc LS (.int x :: ST))) : zm_Snd M pc (zi_un op n) := by
  refine zm_pure (fun ls st h x hh => ?_) ?_
  · unfold zi_un at hh
    split at hh
    · exact ⟨_, _, (Option.some.inj hh).symm⟩
    · cases hh
  · intro sp L xs dC dI A p l e R s m args below meth c H locs cells slots Q ws LS ST ls st h pc' ls' st' X S hf kk
    unfold zi_un at hf
    split at hf
    · cases hf
      obtain ⟨ST1, rfl, h2⟩ := zv_i S.2.2.2.2.2
      exact hr X.1 X.2.1 (kk _ ⟨rfl, h2⟩)
    · cases hf
theorem zs_ineg (hd : decode (zm_cc M) pc = .ok (.ineg, 1)) : zm_Snd M pc (zi_un (fun x => -x) (pc + 1)) := zs_un fun h1 h2 k => lv_ineg h1 h2 hd k
theorem zs_i2b (hd : decode (zm_cc M) pc = .ok (.i2b, 1)) : zm_Snd M pc (zi_un (fun x => x.toInt8.toInt32) (pc + 1)) := zs_un fun h1 h2 k => lv_i2b h1 h2 hd rfl k
theorem zs_i2s (hd : decode (zm_cc M) pc = .ok (.i2s, 1)) : zm_Snd M pc (zi_un (fun x => x.toInt16.toInt32) (pc + 1)) := zs_un fun h1 h2 k => lv_i2s h1 h2 hd rfl k
theorem zs_i2c (hd : decode (zm_cc M) pc = .ok (.i2c, 1)) : zm_Snd M pc (zi_un (fun x => (x.toUInt32 % 65536).toInt32) (pc + 1)) := zs_un fun h1 h2 k => lv_i2c h1 h2 hd rfl k
theorem zs_lbin {op : Int64 → Int64 → Int64} {n : Nat} (hr : ∀ {p : Program} {l : Launch} {e : Env} {R : Room} {s : State} {m : MethodId} {args : Array Value} {below : List Frame} {meth : Method} {c : Code} {H : Heap} {locs : List Loc} {cells slots : Nat} {Q : State → Prop} {LS : Array Slot} {ST : List Value} {x y : Int64}, p.tables.exec = Jvm.exec → c.code = zm_cc M → W p l e R s m args below meth c H locs cells slots Q (F0 m n LS (.long (op x y) :: ST)) → W p l e R s m args below meth c H locs cells slots Q (F0 m pc LS (.long y :: .long x :: ST))) : zm_Snd M pc (zi_lbin op n) := by
  refine zm_pure (fun ls st h x hh => ?_) ?_
  · unfold zi_lbin at hh
    split at hh
    · exact ⟨_, _, (Option.some.inj hh).symm⟩
    · cases hh
  · intro sp L xs dC dI A p l e R s m args below meth c H locs cells slots Q ws LS ST ls st h pc' ls' st' X S hf kk
    unfold zi_lbin at hf
    split at hf
    · cases hf
      obtain ⟨ST1, rfl, h2⟩ := zv_l S.2.2.2.2.2
      obtain ⟨ST2, rfl, h3⟩ := zv_l h2
      exact hr X.1 X.2.1 (kk _ ⟨rfl, h3⟩)
    · cases hf
theorem zs_ladd (hd : decode (zm_cc M) pc = .ok (.ladd, 1)) : zm_Snd M pc (zi_lbin (· + ·) (pc + 1)) := zs_lbin fun h1 h2 k => lv_ladd h1 h2 hd k
theorem zs_lmul (hd : decode (zm_cc M) pc = .ok (.lmul, 1)) : zm_Snd M pc (zi_lbin (· * ·) (pc + 1)) := zs_lbin fun h1 h2 k => lv_lmul h1 h2 hd k
theorem zs_ldiv (hd : decode (zm_cc M) pc = .ok (.ldiv, 1)) : zm_Snd M pc (zi_ldiv (pc + 1)) := by
  refine zm_pure (fun ls st h x hh => ?_) ?_
  · unfold zi_ldiv at hh
    split at hh
    · split at hh
      · cases hh
      · exact ⟨_, _, (Option.some.inj hh).symm⟩
    · cases hh
  · intro sp L xs dC dI A p l e R s m args below meth c H locs cells slots Q ws LS ST ls st h pc' ls' st' X S hf kk
    unfold zi_ldiv at hf
    split at hf
    · split at hf
      · cases hf
      · rename_i hy
        cases hf
        obtain ⟨ST1, rfl, h2⟩ := zv_l S.2.2.2.2.2
        obtain ⟨ST2, rfl, h3⟩ := zv_l h2
        exact lv_ldiv X.1 X.2.1 hd hy (kk _ ⟨rfl, h3⟩)
    · cases hf
theorem zs_lrem (hd : decode (zm_cc M) pc = .ok (.lrem, 1)) : zm_Snd M pc (zi_lrem (pc + 1)) := by
  refine zm_pure (fun ls st h x hh => ?_) ?_
  · unfold zi_lrem at hh
    split at hh
    · split at hh
      · cases hh
      · exact ⟨_, _, (Option.some.inj hh).symm⟩
    · cases hh
  · intro sp L xs dC dI A p l e R s m args below meth c H locs cells slots Q ws LS ST ls st h pc' ls' st' X S hf kk
    unfold zi_lrem at hf
    split at hf
    · split at hf
      · cases hf
      · rename_i hy
        cases hf
        obtain ⟨ST1, rfl, h2⟩ := zv_l S.2.2.2.2.2
        obtain ⟨ST2, rfl, h3⟩ := zv_l h2
        exact lv_lrem X.1 X.2.1 hd hy (kk _ ⟨rfl, h3⟩)
    · cases hf
theorem zs_i2l (hd : decode (zm_cc M) pc = .ok (.i2l, 1)) : zm_Snd M pc (zi_i2l (pc + 1)) := by
  refine zm_pure (fun ls st h x hh => ?_) ?_
  · unfold zi_i2l at hh
    split at hh
    · exact ⟨_, _, (Option.some.inj hh).symm⟩
    · cases hh
  · intro sp L xs dC dI A p l e R s m args below meth c H locs cells slots Q ws LS ST ls st h pc' ls' st' X S hf kk
    unfold zi_i2l at hf
    split at hf
    · cases hf
      obtain ⟨ST1, rfl, h2⟩ := zv_i S.2.2.2.2.2
      exact lv_i2l X.1 X.2.1 hd rfl (kk _ ⟨rfl, h2⟩)
    · cases hf
theorem zs_lcmp (hd : decode (zm_cc M) pc = .ok (.lcmp, 1)) : zm_Snd M pc (zi_lcmp (pc + 1)) := by
  refine zm_pure (fun ls st h x hh => ?_) ?_
  · unfold zi_lcmp at hh
    split at hh
    · exact ⟨_, _, (Option.some.inj hh).symm⟩
    · cases hh
  · intro sp L xs dC dI A p l e R s m args below meth c H locs cells slots Q ws LS ST ls st h pc' ls' st' X S hf kk
    unfold zi_lcmp at hf
    split at hf
    · cases hf
      obtain ⟨ST1, rfl, h2⟩ := zv_l S.2.2.2.2.2
      obtain ⟨ST2, rfl, h3⟩ := zv_l h2
      exact W.lcmp X.1 X.2.1 hd (kk _ ⟨rfl, h3⟩)
    · cases hf
theorem zs_pop (hd : decode (zm_cc M) pc = .ok (.pop, 1)) : zm_Snd M pc (zi_pop (pc + 1)) := by
  refine zm_pure (fun ls st h x hh => ?_) ?_
  · unfold zi_pop at hh
    split at hh
    · exact ⟨_, _, (Option.some.inj hh).symm⟩
    · cases hh
  · intro sp L xs dC dI A p l e R s m args below meth c H locs cells slots Q ws LS ST ls st h pc' ls' st' X S hf kk
    unfold zi_pop at hf
    split at hf
    · cases hf
      obtain ⟨ST1, rfl, h2⟩ := zv_i S.2.2.2.2.2
      exact lv_pop X.1 X.2.1 hd rfl (kk _ h2)
    · cases hf
theorem zs_dup (hd : decode (zm_cc M) pc = .ok (.dup, 1)) : zm_Snd M pc (zi_dup (pc + 1)) := by
  refine zm_pure (fun ls st h x hh => ?_) ?_
  · unfold zi_dup at hh
    split at hh
    · exact ⟨_, _, (Option.some.inj hh).symm⟩
    · exact ⟨_, _, (Option.some.inj hh).symm⟩
    · cases hh
  · intro sp L xs dC dI A p l e R s m args below meth c H locs cells slots Q ws LS ST ls st h pc' ls' st' X S hf kk
    unfold zi_dup at hf
    split at hf
    · cases hf
      obtain ⟨V, ST1, rfl, hV, h2⟩ := zv_v S.2.2.2.2.2
      obtain ⟨a, rfl⟩ := zm_ref_cv X.2.2.2.2.2.2.1 hV
      exact lv_dup X.1 X.2.1 hd rfl (kk _ ⟨hV, hV, h2⟩)
    · cases hf
      obtain ⟨ST1, rfl, h2⟩ := zv_i S.2.2.2.2.2
      exact lv_dup X.1 X.2.1 hd rfl (kk _ ⟨rfl, rfl, h2⟩)
    · cases hf
theorem zs_dup2 (hd : decode (zm_cc M) pc = .ok (.dup2, 1)) : zm_Snd M pc (zi_dup2 (pc + 1)) := by
  refine zm_pure (fun ls st h x hh => ?_) ?_
  · unfold zi_dup2 at hh
    split at hh
    · exact ⟨_, _, (Option.some.inj hh).symm⟩
    · cases hh
  · intro sp L xs dC dI A p l e R s m args below meth c H locs cells slots Q ws LS ST ls st h pc' ls' st' X S hf kk
    unfold zi_dup2 at hf
    split at hf
    · cases hf
      obtain ⟨ST1, rfl, h2⟩ := zv_i S.2.2.2.2.2
      obtain ⟨V, ST2, rfl, hV, h3⟩ := zv_v h2
      obtain ⟨a, rfl⟩ := zm_ref_cv X.2.2.2.2.2.2.1 hV
      exact lv_dup2_11 X.1 X.2.1 hd rfl rfl (kk _ ⟨rfl, hV, rfl, hV, h3⟩)
    · cases hf
theorem zs_b1 {c : Int32 → Prop} [DecidablePred c] {t n : Nat} (hr : ∀ {p : Program} {l : Launch} {e : Env} {R : Room} {s : State} {m : MethodId} {args : Array Value} {below : List Frame} {meth : Method} {cd : Code} {H : Heap} {locs : List Loc} {cells slots : Nat} {Q : State → Prop} {LS : Array Slot} {ST : List Value} {x : Int32}, p.tables.exec = Jvm.exec → cd.code = zm_cc M → (c x → W p l e R s m args below meth cd H locs cells slots Q (F0 m t LS ST)) → (¬ c x → W p l e R s m args below meth cd H locs cells slots Q (F0 m n LS ST)) → W p l e R s m args below meth cd H locs cells slots Q (F0 m pc LS (.int x :: ST))) : zm_Snd M pc (zi_b1 c t n) := by
  refine zm_pure (fun ls st h x hh => ?_) ?_
  · unfold zi_b1 at hh
    split at hh
    · exact ⟨_, _, (Option.some.inj hh).symm⟩
    · cases hh
  · intro sp L xs dC dI A p l e R s m args below meth cd H locs cells slots Q ws LS ST ls st h pc' ls' st' X S hf kk
    unfold zi_b1 at hf
    split at hf
    · cases hf
      obtain ⟨ST1, rfl, h2⟩ := zv_i S.2.2.2.2.2
      refine hr X.1 X.2.1 (fun hc => ?_) (fun hc => ?_)
      · have := kk _ h2
        rw [if_pos hc] at this
        exact this
      · have := kk _ h2
        rw [if_neg hc] at this
        exact this
    · cases hf
theorem zs_ifeq {o : Int} {t : Nat} (hd : decode (zm_cc M) pc = .ok (.ifCond .eq o, 3)) (ht : (pc : Int) + o = (t : Int)) : zm_Snd M pc (zi_b1 (fun x => x = 0) t (pc + 3)) := zs_b1 fun h1 h2 k1 k2 => lv_if_eq h1 h2 hd ht k1 k2
theorem zs_ifne {o : Int} {t : Nat} (hd : decode (zm_cc M) pc = .ok (.ifCond .ne o, 3)) (ht : (pc : Int) + o = (t : Int)) : zm_Snd M pc (zi_b1 (fun x => ¬ x = 0) t (pc + 3)) := zs_b1 fun h1 h2 k1 k2 => lv_if_ne h1 h2 hd ht k1 (fun z => k2 (fun w => w z))
theorem zs_iflt {o : Int} {t : Nat} (hd : decode (zm_cc M) pc = .ok (.ifCond .lt o, 3)) (ht : (pc : Int) + o = (t : Int)) : zm_Snd M pc (zi_b1 (fun x => x < 0) t (pc + 3)) := zs_b1 fun h1 h2 k1 k2 => lv_if_lt h1 h2 hd ht k1 k2
theorem zs_ifge {o : Int} {t : Nat} (hd : decode (zm_cc M) pc = .ok (.ifCond .ge o, 3)) (ht : (pc : Int) + o = (t : Int)) : zm_Snd M pc (zi_b1 (fun x => 0 ≤ x) t (pc + 3)) := zs_b1 fun h1 h2 k1 k2 => lv_if_ge h1 h2 hd ht k1 k2
theorem zs_ifgt {o : Int} {t : Nat} (hd : decode (zm_cc M) pc = .ok (.ifCond .gt o, 3)) (ht : (pc : Int) + o = (t : Int)) : zm_Snd M pc (zi_b1 (fun x => 0 < x) t (pc + 3)) := zs_b1 fun h1 h2 k1 k2 => lv_if_gt h1 h2 hd ht k1 k2
theorem zs_ifle {o : Int} {t : Nat} (hd : decode (zm_cc M) pc = .ok (.ifCond .le o, 3)) (ht : (pc : Int) + o = (t : Int)) : zm_Snd M pc (zi_b1 (fun x => x ≤ 0) t (pc + 3)) := zs_b1 fun h1 h2 k1 k2 => lv_if_le h1 h2 hd ht k1 k2
theorem zs_b2 {c : Int32 → Int32 → Prop} [∀ x, DecidablePred (c x)] {t n : Nat} (hr : ∀ {p : Program} {l : Launch} {e : Env} {R : Room} {s : State} {m : MethodId} {args : Array Value} {below : List Frame} {meth : Method} {cd : Code} {H : Heap} {locs : List Loc} {cells slots : Nat} {Q : State → Prop} {LS : Array Slot} {ST : List Value} {x y : Int32}, p.tables.exec = Jvm.exec → cd.code = zm_cc M → (c x y → W p l e R s m args below meth cd H locs cells slots Q (F0 m t LS ST)) → (¬ c x y → W p l e R s m args below meth cd H locs cells slots Q (F0 m n LS ST)) → W p l e R s m args below meth cd H locs cells slots Q (F0 m pc LS (.int y :: .int x :: ST))) : zm_Snd M pc (zi_b2 c t n) := by
  refine zm_pure (fun ls st h x hh => ?_) ?_
  · unfold zi_b2 at hh
    split at hh
    · exact ⟨_, _, (Option.some.inj hh).symm⟩
    · cases hh
  · intro sp L xs dC dI A p l e R s m args below meth cd H locs cells slots Q ws LS ST ls st h pc' ls' st' X S hf kk
    unfold zi_b2 at hf
    split at hf
    · cases hf
      obtain ⟨ST1, rfl, h2⟩ := zv_i S.2.2.2.2.2
      obtain ⟨ST2, rfl, h3⟩ := zv_i h2
      refine hr X.1 X.2.1 (fun hc => ?_) (fun hc => ?_)
      · have := kk _ h3
        rw [if_pos hc] at this
        exact this
      · have := kk _ h3
        rw [if_neg hc] at this
        exact this
    · cases hf
theorem zs_icmpeq {o : Int} {t : Nat} (hd : decode (zm_cc M) pc = .ok (.if_icmp .eq o, 3)) (ht : (pc : Int) + o = (t : Int)) : zm_Snd M pc (zi_b2 (fun x y => x = y) t (pc + 3)) := zs_b2 fun h1 h2 k1 k2 => lv_icmp_eq h1 h2 hd ht k1 k2
theorem zs_icmpne {o : Int} {t : Nat} (hd : decode (zm_cc M) pc = .ok (.if_icmp .ne o, 3)) (ht : (pc : Int) + o = (t : Int)) : zm_Snd M pc (zi_b2 (fun x y => ¬ x = y) t (pc + 3)) := zs_b2 fun h1 h2 k1 k2 => lv_icmp_ne h1 h2 hd ht k1 (fun z => k2 (fun w => w z))
theorem zs_icmplt {o : Int} {t : Nat} (hd : decode (zm_cc M) pc = .ok (.if_icmp .lt o, 3)) (ht : (pc : Int) + o = (t : Int)) : zm_Snd M pc (zi_b2 (fun x y => x < y) t (pc + 3)) := zs_b2 fun h1 h2 k1 k2 => lv_icmp_lt h1 h2 hd ht k1 k2
theorem zs_icmpge {o : Int} {t : Nat} (hd : decode (zm_cc M) pc = .ok (.if_icmp .ge o, 3)) (ht : (pc : Int) + o = (t : Int)) : zm_Snd M pc (zi_b2 (fun x y => y ≤ x) t (pc + 3)) := zs_b2 fun h1 h2 k1 k2 => lv_icmp_ge h1 h2 hd ht k1 k2
theorem zs_icmpgt {o : Int} {t : Nat} (hd : decode (zm_cc M) pc = .ok (.if_icmp .gt o, 3)) (ht : (pc : Int) + o = (t : Int)) : zm_Snd M pc (zi_b2 (fun x y => y < x) t (pc + 3)) := zs_b2 fun h1 h2 k1 k2 => lv_icmp_gt h1 h2 hd ht k1 k2
theorem zs_icmple {o : Int} {t : Nat} (hd : decode (zm_cc M) pc = .ok (.if_icmp .le o, 3)) (ht : (pc : Int) + o = (t : Int)) : zm_Snd M pc (zi_b2 (fun x y => x ≤ y) t (pc + 3)) := zs_b2 fun h1 h2 k1 k2 => lv_icmp_le h1 h2 hd ht k1 k2
theorem zs_goto {o : Int} {t : Nat} (hd : decode (zm_cc M) pc = .ok (.goto o, 3)) (ht : (pc : Int) + o = (t : Int)) : zm_Snd M pc (zi_go t) := by
  refine zm_pure (fun ls st h x hh => ⟨t, st, (Option.some.inj hh).symm⟩) ?_
  intro sp L xs dC dI A p l e R s m args below meth c H locs cells slots Q ws LS ST ls st h pc' ls' st' X S hf kk
  cases hf
  exact lv_goto X.1 X.2.1 hd ht (kk _ S.2.2.2.2.2)
theorem zs_ts {d lo hi : Int} {offs : Array Int} {len : Nat} {ts : List Nat} {dt : Nat} (hd : decode (zm_cc M) pc = .ok (.tableswitch d lo hi offs, len)) (hdt : (pc : Int) + d = (dt : Int)) (hts : ∀ j, j < (hi - lo + 1).toNat → ∃ o, offs[j]? = some o ∧ (pc : Int) + o = (ts.getD j 0 : Nat)) : zm_Snd M pc (zi_ts lo hi ts dt) := by
  refine zm_pure (fun ls st h x hh => ?_) ?_
  · unfold zi_ts at hh
    split at hh
    · split at hh
      · exact ⟨_, _, (Option.some.inj hh).symm⟩
      · exact ⟨_, _, (Option.some.inj hh).symm⟩
    · cases hh
  · intro sp L xs dC dI A p l e R s m args below meth c H locs cells slots Q ws LS ST ls st h pc' ls' st' X S hf kk
    unfold zi_ts at hf
    split at hf
    · split at hf
      · rename_i hc
        cases hf
        obtain ⟨ST1, rfl, h2⟩ := zv_i S.2.2.2.2.2
        exact lv_tableOut X.1 X.2.1 hd hc hdt (kk _ h2)
      · rename_i x st0 hc
        cases hf
        obtain ⟨ST1, rfl, h2⟩ := zv_i S.2.2.2.2.2
        obtain ⟨o, ho, ho2⟩ := hts (x.toInt - lo).toNat (by have h1 := fun z => hc (Or.inl z); have h2 := fun z => hc (Or.inr z); omega)
        exact lv_tableIn X.1 X.2.1 hd (fun z => hc (Or.inl z)) (fun z => hc (Or.inr z)) ho ho2 (kk _ h2)
    · cases hf
end ZS2
