theorem zm_rk_lt {M : Nat} {as : List Value} (h : zm_rk M as < 1000000) : (zm_ex as).length ≤ zm_ml M ∧ zm_ck M 0 as = true := by
  unfold zm_rk at h
  cases hc : (Nat.ble (zm_ex as).length (zm_ml M) && zm_ck M 0 as) with
  | false => rw [hc] at h; exact absurd h (by show ¬ (1000000 < 1000000); omega)
  | true =>
    obtain ⟨h1, h2⟩ := Bool.and_eq_true_iff.mp hc
    exact ⟨Nat.le_of_ble_eq_true h1, h2⟩
theorem zm_ent_rel {sp : Nat → Value} {ws : va_W} (hsp : ∀ k, (sp k).category = 1) {M : Nat} : ∀ {as AS : List Value} (i : Nat), zm_Vr sp ws as AS → zm_ck M i as = true →
    (∀ (j : Nat) (v : Value), (zm_ex as)[j]? = some v → v ≠ .null → ∃ V, zm_cv sp ws v = some V ∧ (i + j, V) ∈ lv_args i AS) ∧ (∀ q ∈ lv_args i AS, q.2.category = 2 → zm_lg M q.1 = true) ∧ (lg_sl AS).length = (zm_ex as).length := by
  intro as
  induction as with
  | nil =>
    intro AS i hv hc
    have := zv_n hv
    subst this
    exact ⟨fun j v h => by simp [zm_ex] at h, fun q h => by simp [lv_args] at h, rfl⟩
  | cons v as ih =>
    intro AS i hv hc
    obtain ⟨V, AS, rfl, hV, h2⟩ := zv_v hv
    have hcat := zm_cv_cat hsp hV
    have one : ∀ (hc1 : v.category = 1) (he : zm_ex (v :: as) = v :: zm_ex as) (hk : zm_ck M (i + 1) as = true), (∀ (j : Nat) (w : Value), (zm_ex (v :: as))[j]? = some w → w ≠ .null → ∃ V', zm_cv sp ws w = some V' ∧ (i + j, V') ∈ lv_args i (V :: AS)) ∧ (∀ q ∈ lv_args i (V :: AS), q.2.category = 2 → zm_lg M q.1 = true) ∧ (lg_sl (V :: AS)).length = (zm_ex (v :: as)).length := by
      intro hc1 he hk
      obtain ⟨g1, g2, g3⟩ := ih (i + 1) h2 hk
      have hc2 : ¬ V.category = 2 := by omega
      have hla : lv_args i (V :: AS) = (i, V) :: lv_args (i + 1) AS := by simp [lv_args, hc2]
      refine ⟨fun j w hj hw => ?_, fun q hq hq2 => ?_, ?_⟩
      · rw [he] at hj
        rw [hla]
        cases j with
        | zero =>
          simp at hj
          subst hj
          exact ⟨V, hV, List.mem_cons_self⟩
        | succ j =>
          obtain ⟨V', q1, q2⟩ := g1 j w (by simpa using hj) hw
          exact ⟨V', q1, List.mem_cons_of_mem _ (by rw [show i + (j + 1) = i + 1 + j by omega]; exact q2)⟩
      · rw [hla] at hq
        rcases List.mem_cons.mp hq with rfl | hq
        · exact absurd hq2 hc2
        · exact g2 q hq hq2
      · rw [he]
        have : lg_sl (V :: AS) = .val V :: lg_sl AS := by simp [lg_sl, hc2]
        rw [this]
        simp [g3]
    cases v with
    | long x =>
      cases hV
      have hc' := Bool.and_eq_true_iff.mp hc
      obtain ⟨g1, g2, g3⟩ := ih (i + 2) h2 hc'.2
      have hla : lv_args i (.long x :: AS) = (i, .long x) :: lv_args (i + 2) AS := by simp [lv_args, Value.category]
      refine ⟨fun j w hj hw => ?_, fun q hq hq2 => ?_, ?_⟩
      · rw [hla]
        have he : zm_ex (.long x :: as) = .long x :: .null :: zm_ex as := rfl
        rw [he] at hj
        match j, hj with
        | 0, hj => simp at hj; subst hj; exact ⟨.long x, rfl, List.mem_cons_self⟩
        | 1, hj => simp at hj; exact absurd hj.symm hw
        | j + 2, hj =>
          obtain ⟨V', q1, q2⟩ := g1 j w (by simpa using hj) hw
          exact ⟨V', q1, List.mem_cons_of_mem _ (by rw [show i + (j + 2) = i + 2 + j by omega]; exact q2)⟩
      · rw [hla] at hq
        rcases List.mem_cons.mp hq with rfl | hq
        · exact hc'.1
        · exact g2 q hq hq2
      · have : lg_sl (.long x :: AS) = .val (.long x) :: .second :: lg_sl AS := by simp [lg_sl, Value.category]
        rw [this]
        show _ = (Value.long x :: .null :: zm_ex as).length
        simp [g3]
    | double x => exact absurd hc (by intro z; cases z)
    | int x => exact one rfl rfl hc
    | float x => exact one rfl rfl hc
    | null => exact one rfl rfl hc
    | ref x => exact one rfl rfl hc
    | retAddr x => exact one rfl rfl hc
def zm_OK (n : Nat) : Prop := ∀ {r M pc : Nat} {ls st : List Value} {h : zm_H} {v : Option Value} {h' : zm_H}, zm_run n r M pc ls st h = some (v, h') →
  ∀ {sp : Nat → Value} {L : Nat} {xs : Nat → Int32} {dC : Nat → ClassId} {dI : Nat → Nat → Nat} {A : Nat → Prop} {p : Program} {l : Launch} {e : Env} {R : Room} {s : State} {m : MethodId} {args : Array Value} {below : List Frame} {meth : Method} {c : Code} {H : Heap} {locs : List Loc} {cells slots : Nat} {Q : State → Prop} {ws : va_W} {LS : Array Slot} {ST : List Value},
  zm_X M sp L xs dC dI A p R s m args meth c → r ≤ 1000 → r + 1 ≤ R.frames → 60 * (r + 1) ≤ R.locals → zm_S M sp L xs dC dI A s H locs ws ls st h LS ST → cells + (h'.1 - h.1) ≤ R.cells → slots + (h'.2.1 - h.2.1) ≤ R.slots →
  (∀ (pc' : Nat) (H' : Heap) (locs' : List Loc) (ws' : va_W) (LS' : Array Slot) (ST' ls' st' : List Value), zm_E ws ws' → zm_S M sp L xs dC dI A s H' locs' ws' ls' st' h' LS' ST' → zm_Ret M pc' v st' → W p l e R s m args below meth c H' locs' (cells + (h'.1 - h.1)) (slots + (h'.2.1 - h.2.1)) Q (F0 m pc' LS' ST')) →
  W p l e R s m args below meth c H locs cells slots Q (F0 m pc LS ST)
theorem zm_run_mono (hall : ∀ M pc, zm_Snd M pc (zm_stp M pc)) : ∀ (n : Nat) {r M pc : Nat} {ls st : List Value} {h : zm_H} {v : Option Value} {h' : zm_H}, zm_run n r M pc ls st h = some (v, h') → h.1 ≤ h'.1 ∧ h.2.1 ≤ h'.2.1 := by
  intro n
  induction n with
  | zero => intro r M pc ls st h v h' hh; cases hh
  | succ n ih =>
    intro r M pc ls st h v h' hh
    rw [zm_run] at hh
    cases hs : zm_stp M pc ls st h with
    | none => rw [hs] at hh; cases hh
    | some x =>
      rw [hs] at hh
      match x, hs, hh with
      | .inl (pc', ls', st', h1), hs, hh =>
        have g1 := (hall M pc).1 hs
        have g2 := ih hh
        exact ⟨Nat.le_trans g1.1 g2.1, Nat.le_trans g1.2 g2.2⟩
      | .inr (.inl v'), hs, hh =>
        cases hh
        exact ⟨Nat.le_refl _, Nat.le_refl _⟩
      | .inr (.inr (M', as, pc', kd, st')), hs, hh =>
        dsimp only at hh
        by_cases hr : zm_rk M' as < r
        · rw [if_pos hr] at hh
          cases hq : zm_run n (zm_rk M' as) M' 0 (zm_ent M' as) [] h with
          | none => rw [hq] at hh; cases hh
          | some y =>
            rw [hq] at hh
            dsimp only at hh
            cases hk : zm_kd kd y.1 with
            | none => rw [hk] at hh; cases hh
            | some us =>
              rw [hk] at hh
              have g1 := ih (v := y.1) (h' := y.2) hq
              have g2 := ih hh
              exact ⟨Nat.le_trans g1.1 g2.1, Nat.le_trans g1.2 g2.2⟩
        · rw [if_neg hr] at hh
          cases hh
def zm_PB (sp : Nat → Value) (L : Nat) (xs : Nat → Int32) (dC : Nat → ClassId) (dI : Nat → Nat → Nat) (ws : va_W) (sz : Nat) (h : zm_H) : State → Prop := fun U => U.heap.size = sz ∧ va_P (dC, dI) vwCl ws U.heap ∧ va_K (dC, dI) vwCl [] U ∧ va_D (fun _ => True) ws ∧ zm_Hr U sp L xs ws h ∧ zm_St sp L xs (va_A ws sz) U
def zm_QB (sp : Nat → Value) (L : Nat) (xs : Nat → Int32) (dC : Nat → ClassId) (dI : Nat → Nat → Nat) (ws : va_W) (sz : Nat) (v : Option Value) (h' : zm_H) : Array Value → State → Outcome → State → Prop := fun _ st o t => (∃ ws', o = .returned v ∧ va_P (dC, dI) vwCl ws' t.heap ∧ va_K (dC, dI) vwCl [] t ∧ va_D (va_A ws sz) ws' ∧ zm_Hr t sp L xs ws' h' ∧ zm_E ws ws') ∧ va_F (va_A ws sz) st t
theorem zm_met {n : Nat} (ih : zm_OK n) {M' : Nat} {as : List Value} {h : zm_H} {v : Option Value} {h1 : zm_H} (hrun : zm_run n (zm_rk M' as) M' 0 (zm_ent M' as) [] h = some (v, h1)) (hrk9 : zm_rk M' as ≤ 1000) {k : Nat} (hwd : zm_Wd M' k) (l : Launch) {sp : Nat → Value} {L : Nat} {xs : Nat → Int32} {dC : Nat → ClassId} {dI : Nat → Nat → Nat} {ws : va_W} {sz : Nat} {AS : List Value} (hAS : zm_Vr sp ws as AS) :
    Met l (zm_y M') (Cond.code (zm_y M') (zm_cc M') (zm_ml M') (zm_rt M') :: zT) ({ frames := zm_rk M' as + 1, cells := h1.1 - h.1, slots := h1.2.1 - h.2.1, locals := 60 * (zm_rk M' as + 1) } : Room) (va_Pc AS (zm_PB sp L xs dC dI ws sz h)) (zm_QB sp L xs dC dI ws sz v h1) (h1.1 - h.1) (h1.2.1 - h.2.1) (va_A ws sz) := by
  refine Met.ofW (cc := zm_cc M') (maxL := zm_ml M') (ret := zm_rt M') hwd.2.2.2.1 rfl ?_
  intro p e s m args below meth c s₁ B hml hv
  obtain ⟨rfl, hsz, hP, hK, hD0, hH, hSt⟩ := hv
  have hts := atoms_spec (ws := Cond.code (zm_y M') (zm_cc M') (zm_ml M') (zm_rt M') :: zT) B.pre
  have hown : s.vm.findClass (zm_y M').cls = some m.cls := findClass_of_methodNamed B.named
  have hlocks := B.notSynchronized
  have hret := B.returns
  subst hsz
  have hD := hD0.self (sz := s.heap.size)
  have hS : va_S (va_A ws s.heap.size) s.heap s.heap [] := va_S.rf
  have hsp : ∀ k, (sp k).category = 1 := by
    obtain ⟨b, t0, adK, adV, ⟨-, -, -, -, h5⟩, -⟩ := hSt
    exact h5
  obtain ⟨hlen, hck⟩ := zm_rk_lt (show zm_rk M' as < 1000000 by omega)
  obtain ⟨e1, e2, e3⟩ := zm_ent_rel hsp (M := M') 0 hAS hck
  have hl := lv_entry AS (n := zm_ml M') (by rw [e3]; exact hlen)
  rw [lg_entry_eq]
  have hX : zm_X M' sp L xs dC dI (va_A ws s.heap.size) p ({ frames := zm_rk M' as + 1, cells := h1.1 - h.1, slots := h1.2.1 - h.2.1, locals := 60 * (zm_rk M' as + 1) } : Room) s m AS.toArray meth c :=
    ⟨B.exec, B.bytes, hml, hown, fun w hw => hts w (List.mem_cons_of_mem _ hw), hK, hSt, fun q hq => Or.inr hq, fun _ => by rw [(name_of_methodNamed B.named B.method).1]; assumption, Nat.le_add_left 1 _, by show 60 ≤ 60 * (_ + 1); omega⟩
  have hSr : zm_S M' sp L xs dC dI (va_A ws s.heap.size) s s.heap [] ws (zm_ent M' as) [] h _ [] := ⟨hP, hD, hS, hH, ⟨_, hl, ⟨fun i w hi hw => by
    unfold zm_ent at hi
    by_cases hil : i < (zm_ex as).length
    · rw [List.getElem?_append_left hil] at hi
      have := e1 i w hi hw
      rw [Nat.zero_add] at this
      exact this
    · rw [List.getElem?_append_right (by omega)] at hi
      have := (List.getElem?_eq_some_iff.mp hi).2
      rw [List.getElem_replicate] at this
      exact absurd this.symm hw, e2⟩⟩, trivial⟩
  refine ih hrun hX hrk9 (Nat.le_refl _) (Nat.le_refl _) hSr (by show 0 + (h1.1 - h.1) ≤ h1.1 - h.1; omega) (by show 0 + (h1.2.1 - h.2.1) ≤ h1.2.1 - h.2.1; omega) ?_
  intro pc' H' locs' ws' LS' ST' ls' st' hE hS' hR
  obtain ⟨s1, s2, s3, s4, -, s6⟩ := hS'
  have fin : ∀ t : State, t.heap = H' → s.WarmedH t.vm → zm_QB sp L xs dC dI ws s.heap.size v h1 AS.toArray s (.returned v) t := by
    intro t ht hW
    exact ⟨⟨ws', rfl, by rw [ht]; exact s1, va_K.moved hW.alike hK, s2, zm_Hr_moved hW.alike s4, hE⟩, s3.F ht⟩
  have ec : 0 + (h1.1 - h.1) = h1.1 - h.1 := Nat.zero_add _
  have es : 0 + (h1.2.1 - h.2.1) = h1.2.1 - h.2.1 := Nat.zero_add _
  rw [ec, es]
  rcases hR with ⟨x, rfl, rfl, hd, ty, hty, hn⟩ | ⟨x, rfl, rfl, hd, hty⟩ | ⟨rfl, rfl, hd, hty⟩
  · obtain ⟨ST0, rfl, h0⟩ := zv_i s6
    have := zv_n h0
    subst this
    exact W.zret (v := x) B.exec B.bytes (hret.trans hty) hn fin s3.2.2 hd
  · obtain ⟨ST0, rfl, h0⟩ := zv_l s6
    have := zv_n h0
    subst this
    exact W.lret (v := x) B.exec B.bytes (hret.trans hty) fin s3.2.2 hd
  · have := zv_n s6
    subst this
    exact W.vret B.exec B.bytes (hret.trans hty) fin s3.2.2 hd
theorem zm_after {p : Program} {l : Launch} {e : Env} {R : Room} {s : State} {m : MethodId} {args : Array Value} {below : List Frame} {meth : Method} {c : Code} {H : Heap} {locs : List Loc} {cells slots mc ms : Nat} {Q : State → Prop} {pc : Nat} {LS : Array Slot} {REST ST : List Value} {a : Array Value} {sp : Nat → Value} {L : Nat} {xs : Nat → Int32} {dC : Nat → ClassId} {dI : Nat → Nat → Nat} {ws : va_W} {v : Option Value} {h1 : zm_H} {A : Nat → Prop}
    (hr : va_Run p l e R s m args below meth c H locs cells slots mc ms (F0 m pc LS ST) REST (zm_QB sp L xs dC dI ws H.size v h1 a) (va_A ws H.size)) (hS : va_S A s.heap H locs) (hf : ∀ q, va_A ws H.size q → A q)
    (kk : ∀ (H' : Heap) (locs' : List Loc) (ws' : va_W), zm_E ws ws' → va_P (dC, dI) vwCl ws' H' → va_D A ws' → va_S A s.heap H' locs' → zm_Hr s sp L xs ws' h1 → W p l e R s m args below meth c H' locs' (cells + mc) (slots + ms) Q (F0 m (pc + 3) LS (v.toList ++ REST))) : W p l e R s m args below meth c H locs cells slots Q (F0 m pc LS ST) := by
  intro T hT X
  obtain ⟨v', st₀, t, T', L', h0, X', hL, e1, e2, ⟨⟨ws', hv, hP, hK, hD, hH, hE⟩, hz, hk⟩, st⟩ := hr T hT X
  cases hv
  rw [h0] at hz hk
  have hvm : s.vm.Alike t.vm := by rw [← e2]; exact X'.warmed.alike
  obtain ⟨t2, a1, b1⟩ := kk T'.heap (locs ++ L') ws' hE (by rw [e1]; exact hP) (hD.weaken (fun _ q _ hq => hf _ hq))
    ⟨Nat.le_trans hS.1 (by rw [e1]; exact hz), fun q h1 h2 => by rw [e1, hk q (Nat.lt_of_lt_of_le h1 hS.1) (fun z => h2 (hf q z))]; exact hS.2.1 q h1 h2, fun q hq => by
      rcases List.mem_append.mp hq with h | h
      · exact hS.2.2 q h
      · exact hf _ (hL q h)⟩ (zm_Hr_moved hvm.symm hH) T' rfl X'
  exact ⟨t2, st t2 a1, b1⟩
theorem zm_kd_v {kd : Nat} {v : Option Value} {us : List Value} (h : zm_kd kd v = some us) (sp : Nat → Value) (ws : va_W) : us = v.toList ∧ zm_Vr sp ws us v.toList := by
  unfold zm_kd at h
  split at h
  · cases h; exact ⟨rfl, trivial⟩
  · cases h; exact ⟨rfl, rfl, trivial⟩
  · cases h; exact ⟨rfl, rfl, trivial⟩
  · cases h
theorem zm_gin {M' k : Nat} (hwd : zm_Wd M' k) : GoodIn zT (Cond.code (zm_y M') (zm_cc M') (zm_ml M') (zm_rt M') :: zT) := fun w hw => by
  rcases List.mem_cons.mp hw with rfl | hw
  · exact zT_good _ hwd.1
  · exact zT_good _ hw
theorem zm_gin_app {a : List Cond} {ws : List Cond} (ha : ∀ w ∈ a, w ∈ zT) (hw : GoodIn zT ws) : GoodIn zT (a ++ ws) := fun w h => by
  rcases List.mem_append.mp h with h | h
  · exact zT_good _ (ha w h)
  · exact hw w h
theorem zm_ok (hall : ∀ M pc, zm_Snd M pc (zm_stp M pc)) : ∀ n, zm_OK n := by
  intro n
  induction n with
  | zero => intro r M pc ls st h v h' hh; cases hh
  | succ n ih =>
    intro r M pc ls st h v h' hh sp L xs dC dI A p l e R s m args below meth c H locs cells slots Q ws LS ST X hr9 hfr hlo S hcc hss fin
    rw [zm_run] at hh
    cases hs : zm_stp M pc ls st h with
    | none => rw [hs] at hh; cases hh
    | some x =>
      rw [hs] at hh
      match x, hs, hh with
      | .inl (pc', ls', st', h1), hs, hh =>
        have g1 := (hall M pc).1 hs
        have g2 := zm_run_mono hall n hh
        have ea : cells + (h1.1 - h.1) + (h'.1 - h1.1) = cells + (h'.1 - h.1) := by omega
        have eb : slots + (h1.2.1 - h.2.1) + (h'.2.1 - h1.2.1) = slots + (h'.2.1 - h.2.1) := by omega
        refine (hall M pc).2.2.2 X S hs (by omega) (by omega) fun H1 locs1 ws1 LS1 ST1 hE1 S1 => ?_
        refine ih hh X hr9 hfr hlo S1 (by omega) (by omega) fun pc2 H2 locs2 ws2 LS2 ST2 ls2 st2 hE2 S2 hR => ?_
        rw [ea, eb]
        exact fin pc2 H2 locs2 ws2 LS2 ST2 ls2 st2 (zm_E_trans hE1 hE2) S2 hR
      | .inr (.inl v'), hs, hh =>
        cases hh
        have := fin pc H locs ws LS ST ls st (zm_E_refl ws) S ((hall M pc).2.1 hs)
        rw [Nat.sub_self, Nat.sub_self, Nat.add_zero, Nat.add_zero] at this
        exact this
      | .inr (.inr (M', as, pc', kd, st')), hs, hh =>
        dsimp only at hh
        by_cases hr : zm_rk M' as < r
        · rw [if_pos hr] at hh
          cases hq : zm_run n (zm_rk M' as) M' 0 (zm_ent M' as) [] h with
          | none => rw [hq] at hh; cases hh
          | some y =>
            rw [hq] at hh
            obtain ⟨v1, h1⟩ := y
            dsimp only at hh
            cases hk : zm_kd kd v1 with
            | none => rw [hk] at hh; cases hh
            | some us =>
              rw [hk] at hh
              have g1 := zm_run_mono hall n hq
              have g2 := zm_run_mono hall n hh
              have ea : cells + (h1.1 - h.1) + (h'.1 - h1.1) = cells + (h'.1 - h.1) := by omega
              have eb : slots + (h1.2.1 - h.2.1) + (h'.2.1 - h1.2.1) = slots + (h'.2.1 - h.2.1) := by omega
              have hroom : cells + (h1.1 - h.1) ≤ R.cells ∧ slots + (h1.2.1 - h.2.1) ≤ R.slots := ⟨by omega, by omega⟩
              obtain ⟨epc, hsm, idx, hcl⟩ := (hall M pc).2.2.1 hs
              dsimp only at epc hsm hcl
              obtain ⟨s1, s2, s3, s4, ⟨lv, l1, l2⟩, s6⟩ := S
              have hfree : ∀ q, va_A ws H.size q → A q := fun q hq => by
                rcases hq with ⟨k, e0, he⟩ | hq
                · exact s2.2 k _ he
                · exact X.2.2.2.2.2.2.2.1 q (Nat.le_trans s3.1 hq)
              have hcont : ∀ (REST : List Value), zm_Vr sp ws st' REST → ∀ (H' : Heap) (locs' : List Loc) (ws' : va_W), zm_E ws ws' → va_P (dC, dI) vwCl ws' H' → va_D A ws' → va_S A s.heap H' locs' → zm_Hr s sp L xs ws' h1 → W p l e R s m args below meth c H' locs' (cells + (h1.1 - h.1)) (slots + (h1.2.1 - h.2.1)) Q (F0 m (pc + 3) LS (v1.toList ++ REST)) := by
                intro REST hREST H1 locs1 ws1 hE1 p1 p2 p3 p4
                rw [epc] at hh
                refine ih hh X hr9 hfr hlo ⟨p1, p2, p3, p4, ⟨lv, l1, zm_Lr_E hE1 l2⟩, zm_Vr_app' (zm_kd_v hk sp ws1).2 (zm_Vr_E hE1 hREST)⟩ (by omega) (by omega) fun pc2 H2 locs2 ws2 LS2 ST2 ls2 st2 hE2 S2 hR => ?_
                rw [ea, eb]
                exact fin pc2 H2 locs2 ws2 LS2 ST2 ls2 st2 (zm_E_trans hE1 hE2) S2 hR
              have hblind : ∀ AS : List Value, FrameBlind (va_Pc AS (zm_PB sp L xs dC dI ws H.size h)) := by
                intro AS a U g mk q
                obtain ⟨q0, q1, qP, qK, qD, qH, qS⟩ := q
                exact ⟨q0, q1, qP, va_K.moved (u := U) (U := U.calling g mk a) (Vm.Alike.refl U.vm) qK, qD, zm_Hr_moved (s := U) (u := U.calling g mk a) (Vm.Alike.refl U.vm) qH, zm_St_same (U := U.calling g mk a) qS rfl rfl⟩
              have hpre : ∀ (AS : List Value) (U : State), U.heap = H → s.WarmedH U.vm → va_Pc AS (zm_PB sp L xs dC dI ws H.size h) AS.toArray U := by
                intro AS U hU hW
                exact ⟨rfl, by rw [hU], by rw [hU]; exact s1, va_K.moved hW.alike X.2.2.2.2.2.1, s2.weaken (fun _ _ _ _ => trivial), zm_Hr_moved hW.alike s4, zm_St_call X.2.2.2.2.2.2.1 hW hU s3 hfree⟩
              have hfix : CallFix p m c (zm_cc M) (zm_ml M) s args zT (zm_y M).cls := ⟨X.1, X.2.1, X.2.2.1, X.2.2.2.1, X.2.2.2.2.1⟩
              have hRR : ∀ {k : Nat}, zm_Wd M' k → (zm_rk M' as + 1) + 1 ≤ R.frames ∧ 8 + (zm_ml M' + 11) + 60 * (zm_rk M' as + 1) ≤ R.locals := fun hw => ⟨by omega, by have := hw.2.2.2.2; omega⟩
              by_cases hbig : zm_rk M' as ≤ 1000
              · rcases hcl with ⟨k, hwd, hlen, hst, hd, w1, w2⟩ | ⟨k, a, as', hwd, hlen, has, hst, ⟨hd, w1, w2, w3⟩, hrc⟩ | ⟨k, a, as', hwd, hlen, has, ha6, hst, hrt, hnm, hd, w2, w1⟩
                · rw [hst] at s6
                  obtain ⟨B1, REST, rfl, v1', v2'⟩ := zm_Vr_app s6
                  have v3 := zm_Vr_rev v1'
                  rw [List.reverse_reverse] at v3
                  have hM := zm_met ih hq hbig hwd l (L := L) (xs := xs) (dC := dC) (dI := dI) (sz := H.size) v3
                  refine zm_after (va_runS (As := B1.reverse) (rest := REST) (n := k) hfix hM (va_cwS k X.2.2.2.2.1 (zm_gin_app (fun w hw => ?_) (zm_gin hwd)) rfl rfl rfl hwd.2.2.1 (hRR hwd)) ⟨hblind _, hpre _⟩ rfl (by rw [← zm_Vr_len v3]; exact hlen) l1.1 (by rw [List.reverse_reverse]) (lv_room (zm_sm_le X.2.2.2.2.2.2.1 v2' hsm)) hd hroom) s3 hfree (hcont REST v2')
                  simp only [List.mem_cons, List.not_mem_nil, or_false] at hw
                  rcases hw with rfl | rfl | rfl
                  · exact w1
                  · exact w2
                  · exact hwd.2.1
                · rw [hst] at s6
                  obtain ⟨B1, REST0, rfl, v1', v2'⟩ := zm_Vr_app s6
                  obtain ⟨VR, REST, rfl, hVR, v4⟩ := zv_v v2'
                  obtain ⟨b, rfl⟩ := zm_ref_cv X.2.2.2.2.2.2.1 hVR
                  have v3 := zm_Vr_rev v1'
                  rw [List.reverse_reverse] at v3
                  have hasr : zm_Vr sp ws as (.ref b :: B1.reverse) := by rw [has]; exact ⟨hVR, v3⟩
                  have hM := zm_met ih hq hbig hwd l (L := L) (xs := xs) (dC := dC) (dI := dI) (sz := H.size) hasr
                  have hrcv : ∃ cellB : Cell, H[b]? = some cellB ∧ cellB.vm.isStatics = false ∧ s.vm.findClass (zm_y M').cls = some cellB.cls := by
                    rcases hrc with ⟨ci, fs, q, hg, hci, hqc, hq1⟩ | ⟨r1, r2, r3⟩
                    · obtain ⟨A1, FS, e1, e2, -⟩ := zm_obj s4 hci hg hVR
                      cases e1
                      rw [← hq1]
                      exact va_recv X.2.2.2.2.2.1 s1 hqc e2
                    · obtain ⟨j, hj5, rfl⟩ := zm_s2 r1 r2
                      obtain ⟨b0, t0, adK, adV, hsp, -, -, -, ⟨k1, -⟩, -⟩ := X.2.2.2.2.2.2.1
                      have hV := zm_sp_of (k := 2 + j) (by omega) hVR
                      rw [hsp.2.2.1 j hj5] at hV
                      cases hV
                      rw [r3]
                      exact vk_recv k1 hj5 s3
                  refine zm_after (va_runV (As := B1.reverse) (rest := REST) (n := k) (C := (zm_y M').cls) hfix hM (cwV k X.2.2.2.2.1 (zm_gin_app (fun w hw => ?_) (zm_gin hwd)) rfl rfl rfl ⟨rfl, hwd.2.2.1⟩ (hRR hwd)) ⟨hblind _, hrcv, hpre _⟩ rfl (by rw [← zm_Vr_len v3]; exact hlen) l1.1 (by rw [List.reverse_reverse]) (lv_room (zm_sm_le X.2.2.2.2.2.2.1 v4 hsm)) hd hroom) s3 hfree (hcont REST v4)
                  simp only [List.mem_cons, List.not_mem_nil, or_false] at hw
                  rcases hw with rfl | rfl | rfl | rfl
                  · exact w1
                  · exact w2
                  · exact w3
                  · exact hwd.2.1
                · rw [hst] at s6
                  obtain ⟨B1, REST0, rfl, v1', v2'⟩ := zm_Vr_app s6
                  obtain ⟨VR, REST, rfl, hVR, v4⟩ := zv_v v2'
                  obtain ⟨b, rfl⟩ := zm_ref_cv X.2.2.2.2.2.2.1 hVR
                  have v3 := zm_Vr_rev v1'
                  rw [List.reverse_reverse] at v3
                  have hasr : zm_Vr sp ws as (.ref b :: B1.reverse) := by rw [has]; exact ⟨hVR, v3⟩
                  have hM := zm_met ih hq hbig hwd l (L := L) (xs := xs) (dC := dC) (dI := dI) (sz := H.size) hasr
                  have hG := zm_gin hwd
                  rw [hrt] at hM hG
                  rcases w1 with w1 | w1
                  · exact zm_after (va_runI (As := B1.reverse) (rest := REST) (n := k) hfix hM (cwI k X.2.2.2.2.1 hG rfl rfl rfl (X.2.2.2.2.1 _ hwd.2.1) (X.2.2.2.2.1 _ w1) (X.2.2.2.2.1 _ w2) hnm hwd.2.2.1 (hRR hwd)) ⟨hblind _, hpre _⟩ rfl (by rw [← zm_Vr_len v3]; exact hlen) l1.1 (by rw [List.reverse_reverse]) (lv_room (zm_sm_le X.2.2.2.2.2.2.1 v4 hsm)) hd hroom) s3 hfree (hcont REST v4)
                  · have hnw : va_Nw (.methodLinkNest (zm_y M).cls idx (zm_y M') "SnowReign") s := by
                      obtain ⟨b0, t0, adK, adV, -, -, -, -, -, -, n1, n2⟩ := X.2.2.2.2.2.2.1
                      rcases w1 with w1 | w1
                      · rw [w1]; exact n1
                      · rw [w1]; exact n2
                    exact zm_after (va_runIN (As := B1.reverse) (rest := REST) (n := k) hfix hM ⟨va_cnB k X.2.2.2.2.1 hG rfl rfl rfl hnw (X.2.2.2.2.1 _ hwd.2.1) hwd.2.2.1 (hRR hwd), hnm, X.2.2.2.2.1 _ w2⟩ ⟨hblind _, hpre _⟩ rfl (by rw [← zm_Vr_len v3]; exact hlen) l1.1 (by rw [List.reverse_reverse]) (lv_room (zm_sm_le X.2.2.2.2.2.2.1 v4 hsm)) hd hroom) s3 hfree (hcont REST v4)
              · exact absurd (show zm_rk M' as ≤ 1000 by omega) hbig
        · rw [if_neg hr] at hh
          cases hh
