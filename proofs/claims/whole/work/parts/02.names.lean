def va_AOA (ty : FieldType) (U : State) : Prop := (Cond.arrayOver (.array ty)).before #[] U = true
theorem va_AOA.use {ty : FieldType} {A : Array Value} {U : State} (h : va_AOA ty U) : (Cond.arrayOver (.array ty)).before A U = true := h
/-! ===== BEGIN new T[n][m]: the outer array a place, the inner ones among the pooled ===== -/
/-- f, but v at every address of l -/
def vr_up {α : Type} (f : Nat → α) (l : List Nat) (v : α) : Nat → α := fun a => if a ∈ l then v else f a
theorem vr_up_in {α : Type} {f : Nat → α} {l : List Nat} {v : α} {a : Nat} (h : a ∈ l) : vr_up f l v a = v := if_pos h
theorem vr_up_ne {α : Type} {f : Nat → α} {l : List Nat} {v : α} {a : Nat} (h : a ∉ l) : vr_up f l v a = f a := if_neg h
theorem vr_rows {L l : List Nat} {f : Nat → va_E} {e : va_E} (h : ∀ a, a ∈ l → a ∉ L) : va_pl L f ++ l.map (fun a => (a, e)) = va_pl (L ++ l) (vr_up f l e) := by
  unfold va_pl
  rw [List.map_append]
  congr 1
  · apply List.map_congr_left
    intro a ha
    rw [vr_up_ne (fun q => h a q ha)]
  · apply List.map_congr_left
    intro a ha
    rw [vr_up_in ha]
theorem vr_lay {X rows : va_W} {x : Nat × va_E} {pl : va_W} {D : va_G} {cl : List vw_C} {H : Heap} (hP : va_P D cl (((X ++ pl) ++ [x]) ++ rows) H) : va_P D cl ((X ++ [x]) ++ (pl ++ rows)) H := by
  rw [List.append_assoc (X ++ pl)] at hP
  have h := va_P.swap hP
  rw [← List.append_assoc X] at h
  have h2 := va_P.swap h
  rw [List.append_assoc (X ++ [x])] at h2
  exact h2
theorem vr_layD {X rows : va_W} {x : Nat × va_E} {pl : va_W} {A : Nat → Prop} (hD : va_D A (((X ++ pl) ++ [x]) ++ rows)) : va_D A ((X ++ [x]) ++ (pl ++ rows)) := by
  rw [List.append_assoc (X ++ pl)] at hD
  have h := va_D.swap hD
  rw [← List.append_assoc X] at h
  have h2 := va_D.swap h
  rw [List.append_assoc (X ++ [x])] at h2
  exact h2
theorem vr_outer (c : ClassId) (N h0 : Nat) : ∀ i : Nat, Jvm.Free.Multi.outerC c N h0 i = arrV c N (fun j => va_rf (if j < i then some (h0 + 1 + j) else none))
  | 0 => by
    show ({ cls := c, slots := Array.replicate N .null, vm := .none } : Cell) = _
    rw [arrV_new]
    refine congrArg (arrV c N) (funext fun j => ?_)
    simp [va_rf]
  | i + 1 => by
    show (Jvm.Free.Multi.outerC c N h0 i).setSlot i (.ref (h0 + 1 + i)) = _
    rw [vr_outer c N h0 i, arrV_store]
    refine congrArg (arrV c N) (funext fun j => ?_)
    by_cases e : j = i
    · subst e
      simp [updV, va_rf]
    · by_cases h : j < i
      · simp [updV, e, h, Nat.lt_succ_of_lt h]
      · simp [updV, e, h, show ¬ j < i + 1 by omega]
section VGM
variable {p : Program} {l : Launch} {e : Env} {R : Room} {s : State} {m : MethodId} {args : Array Value} {below : List Frame} {meth : Method} {c : Code} {H : Heap} {locs : List Loc} {cells slots : Nat} {Q : State → Prop}
variable {cc : ByteArray} {pc : Nat} {ls : Array Slot} {rest : List Value} {D : va_G} {cl : List vw_C} {A : Nat → Prop} {a : Nat} {tys : List (ClassId × FieldType)} {ws : va_W} {H0 : Heap}
theorem va_mna {X : va_W} {L : List Nat} {f : Nat → va_E} {cc : ByteArray} (hexec : p.tables.exec = Jvm.exec) (hb : c.code = cc) {own : String} {index : Nat} {ty : FieldType} {cy : ClassId} (hown : s.vm.findClass own = some m.cls) (hclink : (Cond.classLink own index ("[" ++ (FieldType.array ty).toString)).before args s = true) (hover : va_AOA ty s) (harr : (Cond.arrayClass ty).before args s = true) (hcy : s.vm.findClass (FieldType.array ty).toString = some cy)
    (hK : va_K D cl tys s) (hP : va_P D cl (X ++ va_pl L f) H) (hD : va_D A (X ++ va_pl L f)) (hS : va_S A H0 H locs) (hA : ∀ q, H0.size ≤ q → A q) {n k : Int32} {N' K' : Nat} {z : vp_A} (hn : ¬ n < 0) (hk : ¬ k < 0) (hN : n.toNatClampNeg = N') (hM : k.toNatClampNeg = K')
    (hb1 : N' * 4 ≤ 536870912) (hb2 : K' * componentBytes ty ≤ 536870912) (hb3 : K' ≤ 536870912) (hdf : fits ty (defaultValue ty) = true) (hdd : (defaultValue ty).isDefault = true) (hcells : cells + (1 + N') ≤ R.cells) (hslots : slots + (N' + N' * K') ≤ R.slots) (hz : ∀ c : ClassId, Jvm.Free.Multi.innerC c K' (defaultValue ty) = vp_cell c z) (hdg : decode cc pc = .ok (.multianewarray index 2, 4))
    (kk : ∀ (q : Nat) (r : Nat → Nat) (cA : ClassId) (H1 : Heap), (∀ i j : Nat, i < N' → j < N' → r i = r j → i = j) → (∀ i : Nat, i < N' → r i ∉ L) → va_K D cl (tys ++ [(cA, .array ty)]) s →
      va_P D cl ((X ++ [(q, .inl (cA, N', .inr (.inr (.inr (.inr (fun i => if i < N' then some (r i) else none))))))]) ++ va_pl (L ++ (List.range N').map r) (vr_up f ((List.range N').map r) (.inl (cy, z)))) H1 → va_D A ((X ++ [(q, .inl (cA, N', .inr (.inr (.inr (.inr (fun i => if i < N' then some (r i) else none))))))]) ++ va_pl (L ++ (List.range N').map r) (vr_up f ((List.range N').map r) (.inl (cy, z)))) → va_S A H0 H1 locs →
      W p l e R s m args below meth c H1 locs (cells + 1 + N') (slots + N' + N' * K') Q (F0 m (pc + 4) ls (.ref q :: rest))) : W p l e R s m args below meth c H locs cells slots Q (F0 m pc ls (.int k :: .int n :: rest)) := by
  subst hN
  subst hM
  intro T hT Xs
  obtain ⟨vm₁, cA, comp, -, fA, fC, hO, -, X', step⟩ := Xs.multianewarray2F hexec hown hclink (va_AOA.use hover) harr (g := F0 m pc ls (.int k :: .int n :: rest)) rfl (by rw [hb]; exact hdg) rfl hn hk hb1 hb2 hb3 hdf hdd hcells hslots
  have ec : some cy = some comp := hcy.symm.trans fC
  cases ec
  generalize hF : Jvm.Free.Multi.fill (T.setVm vm₁) cA cy n.toNatClampNeg k.toNatClampNeg (defaultValue ty) n.toNatClampNeg = F at X' step
  have hTh : (T.setVm vm₁).heap = H := hT
  obtain ⟨f1, f2, -, -⟩ := Jvm.Free.Multi.fill_facts (T.setVm vm₁) cA cy n.toNatClampNeg k.toNatClampNeg (defaultValue ty) n.toNatClampNeg
  rw [hF, hTh] at f1 f2
  have hold : ∀ x : Nat, x < H.size → F.heap[x]? = H[x]? := fun x hx => by
    have := Jvm.Free.Multi.fill_old (T.setVm vm₁) cA cy n.toNatClampNeg k.toNatClampNeg (defaultValue ty) (a := x) (by rw [hTh]; exact hx) n.toNatClampNeg
    rw [hF, hTh] at this
    exact this
  have hrow : ∀ j : Nat, j < n.toNatClampNeg → F.heap[H.size + 1 + j]? = some (vp_cell cy z) := fun j hj => by
    have := Jvm.Free.Multi.fill_inner (T.setVm vm₁) cA cy n.toNatClampNeg k.toNatClampNeg (defaultValue ty) n.toNatClampNeg j hj
    rw [hF, hTh, hz] at this
    exact this
  have hout : Jvm.Free.Multi.outerC cA n.toNatClampNeg H.size n.toNatClampNeg = vp_cell cA (n.toNatClampNeg, .inr (.inr (.inr (.inr (fun i => if i < n.toNatClampNeg then some (H.size + 1 + i) else none))))) := by
    rw [vp_cell_q]
    exact vr_outer cA n.toNatClampNeg H.size n.toNatClampNeg
  rw [hout] at f2
  have hlt : ∀ a, a ∈ L → a < H.size := fun a ha => by
    obtain ⟨k9, hk9⟩ := va_pl_get (X := X) (f := f) ha
    exact (hP k9 _ hk9).lt
  have hnl : ∀ i : Nat, i < n.toNatClampNeg → H.size + 1 + i ∉ L := fun i _ h => by
    have := hlt _ h
    omega
  have hnm : ∀ a, a ∈ (List.range n.toNatClampNeg).map (fun i => H.size + 1 + i) → a ∉ L := fun a ha h => by
    obtain ⟨i, -, rfl⟩ := List.mem_map.mp ha
    have := hlt _ h
    omega
  have hP0 : va_P D cl (X ++ va_pl L f) F.heap := hP.kept (fun k9 x hx => hold x.1 ((hP k9 x hx).lt))
  have hP1 : va_P D cl ((X ++ va_pl L f) ++ [(H.size, .inl (cA, n.toNatClampNeg, .inr (.inr (.inr (.inr (fun i => if i < n.toNatClampNeg then some (H.size + 1 + i) else none))))))]) F.heap := hP0.app (fun k9 x hx => by
    have h0 : k9 < 1 := (List.getElem?_eq_some_iff.mp hx).1
    rw [show k9 = 0 by omega] at hx
    cases hx
    exact f2)
  have hP2 : va_P D cl (((X ++ va_pl L f) ++ [(H.size, .inl (cA, n.toNatClampNeg, .inr (.inr (.inr (.inr (fun i => if i < n.toNatClampNeg then some (H.size + 1 + i) else none))))))]) ++ ((List.range n.toNatClampNeg).map (fun i => H.size + 1 + i)).map (fun a => (a, .inl (cy, z)))) F.heap := hP1.app (fun k9 x hx => by
    obtain ⟨a, ha, rfl⟩ := List.mem_map.mp (List.mem_of_getElem? hx)
    obtain ⟨i, hi, rfl⟩ := List.mem_map.mp ha
    exact hrow i (List.mem_range.mp hi))
  have hD2 : va_D A (((X ++ va_pl L f) ++ [(H.size, .inl (cA, n.toNatClampNeg, .inr (.inr (.inr (.inr (fun i => if i < n.toNatClampNeg then some (H.size + 1 + i) else none))))))]) ++ ((List.range n.toNatClampNeg).map (fun i => H.size + 1 + i)).map (fun a => (a, .inl (cy, z)))) := by
    have hD1 := hD.push (e := .inl (cA, n.toNatClampNeg, .inr (.inr (.inr (.inr (fun i => if i < n.toNatClampNeg then some (H.size + 1 + i) else none)))))) hP rfl (hA _ hS.1)
    generalize hW1 : (X ++ va_pl L f) ++ [(H.size, .inl (cA, n.toNatClampNeg, .inr (.inr (.inr (.inr (fun i => if i < n.toNatClampNeg then some (H.size + 1 + i) else none))))))] = W1 at hD1 hP1 ⊢
    have hle : ∀ (k9 : Nat) (x : Nat × va_E), W1[k9]? = some x → x.1 ≤ H.size := fun k9 x hx => by
      rw [← hW1] at hx
      by_cases hl : k9 < (X ++ va_pl L f).length
      · rw [List.getElem?_append_left hl] at hx
        exact Nat.le_of_lt ((hP k9 x hx).lt)
      · rw [List.getElem?_append_right (by omega)] at hx
        have h0 : k9 - (X ++ va_pl L f).length < 1 := (List.getElem?_eq_some_iff.mp hx).1
        rw [show k9 - (X ++ va_pl L f).length = 0 by omega] at hx
        cases hx
        exact Nat.le_refl _
    have hr : ∀ (k9 : Nat) (x : Nat × va_E), (((List.range n.toNatClampNeg).map (fun i => H.size + 1 + i)).map (fun a => ((a, .inl (cy, z)) : Nat × va_E)))[k9]? = some x → x.1 = H.size + 1 + k9 := fun k9 x hx => by
      rw [List.getElem?_map, List.getElem?_map] at hx
      by_cases h9 : k9 < n.toNatClampNeg
      · rw [List.getElem?_range h9] at hx
        cases hx
        rfl
      · have hn0 : (List.range n.toNatClampNeg)[k9]? = none := List.getElem?_eq_none (by rw [List.length_range]; omega)
        rw [hn0] at hx
        cases hx
    refine ⟨fun i j x y hi hj hxy => ?_, fun k9 x hx => ?_⟩
    · by_cases h1 : i < W1.length <;> by_cases h2 : j < W1.length
      · rw [List.getElem?_append_left h1] at hi
        rw [List.getElem?_append_left h2] at hj
        exact hD1.1 i j x y hi hj hxy
      · rw [List.getElem?_append_left h1] at hi
        rw [List.getElem?_append_right (by omega)] at hj
        have := hle _ _ hi
        have := hr _ _ hj
        omega
      · rw [List.getElem?_append_right (by omega)] at hi
        rw [List.getElem?_append_left h2] at hj
        have := hle _ _ hj
        have := hr _ _ hi
        omega
      · rw [List.getElem?_append_right (by omega)] at hi hj
        have := hr _ _ hi
        have := hr _ _ hj
        omega
    · by_cases h1 : k9 < W1.length
      · rw [List.getElem?_append_left h1] at hx
        exact hD1.2 k9 x hx
      · rw [List.getElem?_append_right (by omega)] at hx
        have := hr _ _ hx
        exact hA _ (by have := hS.1; omega)
  have hAr : ArrOfT s cA (.array ty) := fun N9 z9 => by
    obtain ⟨-, k9, hk9, cm9, hkk9⟩ := (hO 0 0 0).1
    exact ⟨(fun q hq => by cases hq), k9, hk9, cm9, hkk9⟩
  have hK2 : va_K D cl (tys ++ [(cA, .array ty)]) s := ⟨hK.1, fun k9 x hx => by
    by_cases hl : k9 < tys.length
    · rw [List.getElem?_append_left hl] at hx
      exact hK.2 k9 x hx
    · rw [List.getElem?_append_right (by omega)] at hx
      have h0 : k9 - tys.length < 1 := (List.getElem?_eq_some_iff.mp hx).1
      rw [show k9 - tys.length = 0 by omega] at hx
      cases hx
      exact ⟨hAr, fA⟩⟩
  obtain ⟨t, a1, b1⟩ := kk H.size (fun i => H.size + 1 + i) cA F.heap (fun i j _ _ h => by have h9 : H.size + 1 + i = H.size + 1 + j := h; omega) hnl hK2 (by rw [← vr_rows hnm]; exact vr_lay hP2) (by rw [← vr_rows hnm]; exact vr_layD hD2) ⟨by rw [f1]; have := hS.1; omega, fun x h1 h2 => (hold x (Nat.lt_of_lt_of_le h1 hS.1)).trans (hS.2.1 x h1 h2), hS.2.2⟩ F rfl X'
  refine ⟨t, step t ?_, b1⟩
  have e : T.heap.size = H.size := by rw [hT]
  rw [e]
  exact a1
end VGM

def RX0 : String := "SnowReign$Figure"
def TX0 : u_T := fun k => match k with
  | 0 => ("SnowReign$Figure", "kind", "I", false)
  | 1 => ("SnowReign$Figure", "size", "I", false)
  | _ => ("SnowReign$Figure", "lean", "I", false)
def tyX0 : Nat → FieldType := fun k => match k with
  | 0 => .int
  | 1 => .int
  | _ => .int
abbrev wsX00 : List Cond := u_ws RX0 TX0 3
theorem nmX0 : ∀ a, a < 3 → ∀ b, b < 3 → a ≠ b → (TX0 a).2.1 ≠ (TX0 b).2.1 := by decide +kernel
theorem tyX0_ok : ∀ k, k < 3 → parseFieldDescriptor (TX0 k).2.2.1 = some (tyX0 k) := by decide +kernel
abbrev cX0_init : ByteArray := prog_2_method_1_code
def yX0_init : MethodName := ⟨RX0, "<init>", "()V"⟩
abbrev cX0_copyOf : ByteArray := prog_2_method_2_code
def yX0_copyOf : MethodName := ⟨RX0, "copyOf", "(LSnowReign$Figure;)V"⟩
abbrev cX0_tell : ByteArray := prog_2_method_3_code
def yX0_tell : MethodName := ⟨RX0, "tell", "(I)I"⟩
abbrev cX0_put : ByteArray := prog_2_method_4_code
def yX0_put : MethodName := ⟨RX0, "put", "(II)V"⟩
abbrev cX0_stands : ByteArray := prog_2_method_5_code
def yX0_stands : MethodName := ⟨RX0, "stands", "()Z"⟩
abbrev cX0_halve : ByteArray := prog_2_method_6_code
def yX0_halve : MethodName := ⟨RX0, "halve", "()V"⟩
abbrev cX0_meltsBy : ByteArray := prog_2_method_7_code
def yX0_meltsBy : MethodName := ⟨RX0, "meltsBy", "(I)I"⟩
abbrev cX0_tipsBy : ByteArray := prog_2_method_8_code
def yX0_tipsBy : MethodName := ⟨RX0, "tipsBy", "(I)I"⟩
abbrev cX0_pass : ByteArray := prog_2_method_9_code
def yX0_pass : MethodName := ⟨RX0, "pass", "(II)V"⟩
def RX1 : String := "SnowReign$Province"
def TX1 : u_T := fun k => match k with
  | 0 => ("SnowReign$Province", "row", "LSnowReign$Row;", true)
  | 1 => ("SnowReign$Province", "warmth", "[I", true)
  | 2 => ("SnowReign$Province", "wind", "[I", true)
  | _ => ("SnowReign$Province", "day", "I", false)
def tyX1 : Nat → FieldType := fun k => match k with
  | 0 => .object "SnowReign$Row"
  | 1 => .array .int
  | 2 => .array .int
  | _ => .int
abbrev wsX10 : List Cond := u_ws RX1 TX1 4
theorem nmX1 : ∀ a, a < 4 → ∀ b, b < 4 → a ≠ b → (TX1 a).2.1 ≠ (TX1 b).2.1 := by decide +kernel
theorem tyX1_ok : ∀ k, k < 4 → parseFieldDescriptor (TX1 k).2.2.1 = some (tyX1 k) := by decide +kernel
abbrev cX1_init : ByteArray := prog_3_method_1_code
def yX1_init : MethodName := ⟨RX1, "<init>", "()V"⟩
abbrev cX1_renew : ByteArray := prog_3_method_2_code
def yX1_renew : MethodName := ⟨RX1, "renew", "()V"⟩
abbrev cX1_copyOf : ByteArray := prog_3_method_3_code
def yX1_copyOf : MethodName := ⟨RX1, "copyOf", "(LSnowReign$Province;)V"⟩
abbrev cX1_weekday : ByteArray := prog_3_method_4_code
def yX1_weekday : MethodName := ⟨RX1, "weekday", "()I"⟩
abbrev cX1_pass : ByteArray := prog_3_method_5_code
def yX1_pass : MethodName := ⟨RX1, "pass", "()V"⟩
abbrev cX1_run : ByteArray := prog_3_method_6_code
def yX1_run : MethodName := ⟨RX1, "run", "(I)V"⟩
abbrev cX1_unruledDays : ByteArray := prog_3_method_7_code
def yX1_unruledDays : MethodName := ⟨RX1, "unruledDays", "(I)I"⟩
abbrev cX1_daysRuledBy : ByteArray := prog_3_method_8_code
def yX1_daysRuledBy : MethodName := ⟨RX1, "daysRuledBy", "(II)I"⟩
abbrev cX1_rulers : ByteArray := prog_3_method_9_code
def yX1_rulers : MethodName := ⟨RX1, "rulers", "(I)I"⟩
abbrev cX1_changesOfRuler : ByteArray := prog_3_method_10_code
def yX1_changesOfRuler : MethodName := ⟨RX1, "changesOfRuler", "(I)I"⟩
abbrev cX1_foresee : ByteArray := prog_3_method_11_code
def yX1_foresee : MethodName := ⟨RX1, "foresee", "([II)V"⟩
def RX2 : String := "SnowReign$Row"
def TX2 : u_T := fun k => match k with
  | 0 => ("SnowReign$Row", "figures", "[LSnowReign$Figure;", true)
  | _ => ("SnowReign$Row", "number", "I", false)
def tyX2 : Nat → FieldType := fun k => match k with
  | 0 => .array (.object "SnowReign$Figure")
  | _ => .int
abbrev wsX20 : List Cond := u_ws RX2 TX2 2
theorem nmX2 : ∀ a, a < 2 → ∀ b, b < 2 → a ≠ b → (TX2 a).2.1 ≠ (TX2 b).2.1 := by decide +kernel
theorem tyX2_ok : ∀ k, k < 2 → parseFieldDescriptor (TX2 k).2.2.1 = some (tyX2 k) := by decide +kernel
abbrev cX2_init : ByteArray := prog_4_method_1_code
def yX2_init : MethodName := ⟨RX2, "<init>", "()V"⟩
abbrev cX2_copyOf : ByteArray := prog_4_method_2_code
def yX2_copyOf : MethodName := ⟨RX2, "copyOf", "(LSnowReign$Row;)V"⟩
abbrev cX2_add : ByteArray := prog_4_method_3_code
def yX2_add : MethodName := ⟨RX2, "add", "(III)V"⟩
abbrev cX2_exchange : ByteArray := prog_4_method_4_code
def yX2_exchange : MethodName := ⟨RX2, "exchange", "(II)V"⟩
abbrev cX2_reigning : ByteArray := prog_4_method_5_code
def yX2_reigning : MethodName := ⟨RX2, "reigning", "()I"⟩
abbrev cX2_decreed : ByteArray := prog_4_method_6_code
def yX2_decreed : MethodName := ⟨RX2, "decreed", "()I"⟩
abbrev cX2_standingBits : ByteArray := prog_4_method_7_code
def yX2_standingBits : MethodName := ⟨RX2, "standingBits", "()I"⟩
abbrev cX2_standingNumber : ByteArray := prog_4_method_8_code
def yX2_standingNumber : MethodName := ⟨RX2, "standingNumber", "()I"⟩
abbrev cX2_sizeOfAll : ByteArray := prog_4_method_9_code
def yX2_sizeOfAll : MethodName := ⟨RX2, "sizeOfAll", "()I"⟩
abbrev cX2_pass : ByteArray := prog_4_method_10_code
def yX2_pass : MethodName := ⟨RX2, "pass", "(II)V"⟩
def RX3 : String := "SnowReign$Sheet"
def TX3 : u_T := fun k => match k with
  | 0 => ("SnowReign$Sheet", "cells", "[I", true)
  | 1 => ("SnowReign$Sheet", "lane", "I", false)
  | _ => ("SnowReign$Sheet", "length", "I", false)
def tyX3 : Nat → FieldType := fun k => match k with
  | 0 => .array .int
  | 1 => .int
  | _ => .int
abbrev wsX30 : List Cond := u_ws RX3 TX3 3
theorem nmX3 : ∀ a, a < 3 → ∀ b, b < 3 → a ≠ b → (TX3 a).2.1 ≠ (TX3 b).2.1 := by decide +kernel
theorem tyX3_ok : ∀ k, k < 3 → parseFieldDescriptor (TX3 k).2.2.1 = some (tyX3 k) := by decide +kernel
abbrev cX3_init : ByteArray := prog_5_method_1_code
def yX3_init : MethodName := ⟨RX3, "<init>", "()V"⟩
abbrev cX3_renew : ByteArray := prog_5_method_2_code
def yX3_renew : MethodName := ⟨RX3, "renew", "(II)V"⟩
abbrev cX3_put : ByteArray := prog_5_method_3_code
def yX3_put : MethodName := ⟨RX3, "put", "(II)V"⟩
abbrev cX3_faultAt : ByteArray := prog_5_method_4_code
def yX3_faultAt : MethodName := ⟨RX3, "faultAt", "(II)I"⟩
abbrev cX3_faultOfPair : ByteArray := prog_5_method_5_code
def yX3_faultOfPair : MethodName := ⟨RX3, "faultOfPair", "(III)I"⟩
def RX4 : String := "SnowReign$Tape"
def TX4 : u_T := fun k => match k with
  | 0 => ("SnowReign$Tape", "bytes", "[B", true)
  | 1 => ("SnowReign$Tape", "length", "I", false)
  | 2 => ("SnowReign$Tape", "at", "I", false)
  | 3 => ("SnowReign$Tape", "token", "I", false)
  | 4 => ("SnowReign$Tape", "place", "I", false)
  | _ => ("SnowReign$Tape", "value", "I", false)
def tyX4 : Nat → FieldType := fun k => match k with
  | 0 => .array .byte
  | 1 => .int
  | 2 => .int
  | 3 => .int
  | 4 => .int
  | _ => .int
abbrev wsX40 : List Cond := u_ws RX4 TX4 6
theorem nmX4 : ∀ a, a < 6 → ∀ b, b < 6 → a ≠ b → (TX4 a).2.1 ≠ (TX4 b).2.1 := by decide +kernel
theorem tyX4_ok : ∀ k, k < 6 → parseFieldDescriptor (TX4 k).2.2.1 = some (tyX4 k) := by decide +kernel
abbrev cX4_init : ByteArray := prog_6_method_1_code
def yX4_init : MethodName := ⟨RX4, "<init>", "()V"⟩
abbrev cX4_append : ByteArray := prog_6_method_2_code
def yX4_append : MethodName := ⟨RX4, "append", "(I)V"⟩
abbrev cX4_rewind : ByteArray := prog_6_method_3_code
def yX4_rewind : MethodName := ⟨RX4, "rewind", "()V"⟩
abbrev cX4_advance : ByteArray := prog_6_method_4_code
def yX4_advance : MethodName := ⟨RX4, "advance", "()V"⟩
abbrev cX4_isName : ByteArray := prog_6_method_5_code
def yX4_isName : MethodName := ⟨RX4, "isName", "(Ljava/lang/String;)Z"⟩
abbrev cX4_weigh : ByteArray := prog_6_method_6_code
def yX4_weigh : MethodName := ⟨RX4, "weigh", "()V"⟩
abbrev cX4_sortOf : ByteArray := prog_6_method_7_code
def yX4_sortOf : MethodName := ⟨RX4, "sortOf", "(B)I"⟩
def RX5 : String := "SnowReign$TextReader"
def TX5 : u_T := fun k => match k with
  | 0 => ("SnowReign$TextReader", "tape", "LSnowReign$Tape;", true)
  | 1 => ("SnowReign$TextReader", "draft", "LSnowReign$Province;", true)
  | 2 => ("SnowReign$TextReader", "lines", "I", false)
  | 3 => ("SnowReign$TextReader", "fault", "I", false)
  | 4 => ("SnowReign$TextReader", "faultPlace", "I", false)
  | _ => ("SnowReign$TextReader", "daysTold", "I", false)
def tyX5 : Nat → FieldType := fun k => match k with
  | 0 => .object "SnowReign$Tape"
  | 1 => .object "SnowReign$Province"
  | 2 => .int
  | 3 => .int
  | 4 => .int
  | _ => .int
abbrev wsX50 : List Cond := u_ws RX5 TX5 6
theorem nmX5 : ∀ a, a < 6 → ∀ b, b < 6 → a ≠ b → (TX5 a).2.1 ≠ (TX5 b).2.1 := by decide +kernel
theorem tyX5_ok : ∀ k, k < 6 → parseFieldDescriptor (TX5 k).2.2.1 = some (tyX5 k) := by decide +kernel
abbrev cX5_init : ByteArray := prog_7_method_1_code
def yX5_init : MethodName := ⟨RX5, "<init>", "()V"⟩
abbrev cX5_readAll : ByteArray := prog_7_method_2_code
def yX5_readAll : MethodName := ⟨RX5, "readAll", "()V"⟩
abbrev cX5_readLine : ByteArray := prog_7_method_3_code
def yX5_readLine : MethodName := ⟨RX5, "readLine", "()Z"⟩
abbrev cX5_kindNamed : ByteArray := prog_7_method_4_code
def yX5_kindNamed : MethodName := ⟨RX5, "kindNamed", "()I"⟩
abbrev cX5_readFigure : ByteArray := prog_7_method_5_code
def yX5_readFigure : MethodName := ⟨RX5, "readFigure", "(I)Z"⟩
abbrev cX5_readDay : ByteArray := prog_7_method_6_code
def yX5_readDay : MethodName := ⟨RX5, "readDay", "()Z"⟩
abbrev cX5_takesNumber : ByteArray := prog_7_method_7_code
def yX5_takesNumber : MethodName := ⟨RX5, "takesNumber", "(I)Z"⟩
abbrev cX5_takesSign : ByteArray := prog_7_method_8_code
def yX5_takesSign : MethodName := ⟨RX5, "takesSign", "()Z"⟩
abbrev cX5_refuseToken : ByteArray := prog_7_method_9_code
def yX5_refuseToken : MethodName := ⟨RX5, "refuseToken", "()Z"⟩
abbrev cX5_refuse : ByteArray := prog_7_method_10_code
def yX5_refuse : MethodName := ⟨RX5, "refuse", "(I)Z"⟩
def RX6 : String := "SnowReign"
def TX6 : u_T := fun k => match k with
  | 0 => ("SnowReign", "now", "LSnowReign$Province;", true)
  | 1 => ("SnowReign", "trial", "LSnowReign$Province;", true)
  | 2 => ("SnowReign", "probe", "LSnowReign$Figure;", true)
  | 3 => ("SnowReign", "salted", "[LSnowReign$Row;", true)
  | 4 => ("SnowReign", "decrees", "[[I", true)
  | 5 => ("SnowReign", "reader", "LSnowReign$TextReader;", true)
  | 6 => ("SnowReign", "textFault", "I", false)
  | 7 => ("SnowReign", "seenDays", "[I", true)
  | 8 => ("SnowReign", "seenDecrees", "[I", true)
  | 9 => ("SnowReign", "seenNumber", "I", false)
  | 10 => ("SnowReign", "images", "[LSnowReign$Province;", true)
  | 11 => ("SnowReign", "kept", "[Z", true)
  | 12 => ("SnowReign", "sheets", "[LSnowReign$Sheet;", true)
  | _ => ("SnowReign", "readFault", "I", false)
def tyX6 : Nat → FieldType := fun k => match k with
  | 0 => .object "SnowReign$Province"
  | 1 => .object "SnowReign$Province"
  | 2 => .object "SnowReign$Figure"
  | 3 => .array (.object "SnowReign$Row")
  | 4 => .array (.array .int)
  | 5 => .object "SnowReign$TextReader"
  | 6 => .int
  | 7 => .array .int
  | 8 => .array .int
  | 9 => .int
  | 10 => .array (.object "SnowReign$Province")
  | 11 => .array .boolean
  | 12 => .array (.object "SnowReign$Sheet")
  | _ => .int
abbrev wsX60 : List Cond := u_ws RX6 TX6 14
theorem nmX6 : ∀ a, a < 14 → ∀ b, b < 14 → a ≠ b → (TX6 a).2.1 ≠ (TX6 b).2.1 := by decide +kernel
theorem tyX6_ok : ∀ k, k < 14 → parseFieldDescriptor (TX6 k).2.2.1 = some (tyX6 k) := by decide +kernel
abbrev cX6_init : ByteArray := prog_1_method_1_code
def yX6_init : MethodName := ⟨RX6, "<init>", "()V"⟩
abbrev cX6_feed : ByteArray := prog_1_method_2_code
def yX6_feed : MethodName := ⟨RX6, "feed", "(I)I"⟩
abbrev cX6_end : ByteArray := prog_1_method_3_code
def yX6_end : MethodName := ⟨RX6, "end", "(I)I"⟩
abbrev cX6_text : ByteArray := prog_1_method_4_code
def yX6_text : MethodName := ⟨RX6, "text", "()I"⟩
abbrev cX6_fault : ByteArray := prog_1_method_5_code
def yX6_fault : MethodName := ⟨RX6, "fault", "()I"⟩
abbrev cX6_rule : ByteArray := prog_1_method_6_code
def yX6_rule : MethodName := ⟨RX6, "rule", "(I)I"⟩
abbrev cX6_figure : ByteArray := prog_1_method_7_code
def yX6_figure : MethodName := ⟨RX6, "figure", "(II)I"⟩
abbrev cX6_week : ByteArray := prog_1_method_8_code
def yX6_week : MethodName := ⟨RX6, "week", "(II)I"⟩
abbrev cX6_alter : ByteArray := prog_1_method_9_code
def yX6_alter : MethodName := ⟨RX6, "alter", "(III)I"⟩
abbrev cX6_set : ByteArray := prog_1_method_10_code
def yX6_set : MethodName := ⟨RX6, "set", "(III)I"⟩
abbrev cX6_roll : ByteArray := prog_1_method_11_code
def yX6_roll : MethodName := ⟨RX6, "roll", "(II)I"⟩
abbrev cX6_ice : ByteArray := prog_1_method_12_code
def yX6_ice : MethodName := ⟨RX6, "ice", "(I)I"⟩
abbrev cX6_salt : ByteArray := prog_1_method_13_code
def yX6_salt : MethodName := ⟨RX6, "salt", "(I)I"⟩
abbrev cX6_clear : ByteArray := prog_1_method_14_code
def yX6_clear : MethodName := ⟨RX6, "clear", "(I)I"⟩
abbrev cX6_days : ByteArray := prog_1_method_15_code
def yX6_days : MethodName := ⟨RX6, "days", "(I)I"⟩
abbrev cX6_runs : ByteArray := prog_1_method_16_code
def yX6_runs : MethodName := ⟨RX6, "runs", "(II)I"⟩
abbrev cX6_ahead : ByteArray := prog_1_method_17_code
def yX6_ahead : MethodName := ⟨RX6, "ahead", "(III)I"⟩
abbrev cX6_falls : ByteArray := prog_1_method_18_code
def yX6_falls : MethodName := ⟨RX6, "falls", "(I)I"⟩
abbrev cX6_reign : ByteArray := prog_1_method_19_code
def yX6_reign : MethodName := ⟨RX6, "reign", "(III)J"⟩
abbrev cX6_decree : ByteArray := prog_1_method_20_code
def yX6_decree : MethodName := ⟨RX6, "decree", "(I)I"⟩
abbrev cX6_coup : ByteArray := prog_1_method_21_code
def yX6_coup : MethodName := ⟨RX6, "coup", "()I"⟩
abbrev cX6_need : ByteArray := prog_1_method_22_code
def yX6_need : MethodName := ⟨RX6, "need", "(II)I"⟩
abbrev cX6_bucket : ByteArray := prog_1_method_23_code
def yX6_bucket : MethodName := ⟨RX6, "bucket", "(I)I"⟩
abbrev cX6_swap : ByteArray := prog_1_method_24_code
def yX6_swap : MethodName := ⟨RX6, "swap", "(II)I"⟩
abbrev cX6_lee : ByteArray := prog_1_method_25_code
def yX6_lee : MethodName := ⟨RX6, "lee", "(II)I"⟩
abbrev cX6_kind : ByteArray := prog_1_method_26_code
def yX6_kind : MethodName := ⟨RX6, "kind", "(II)I"⟩
abbrev cX6_face : ByteArray := prog_1_method_27_code
def yX6_face : MethodName := ⟨RX6, "face", "(II)I"⟩
abbrev cX6_thaw : ByteArray := prog_1_method_28_code
def yX6_thaw : MethodName := ⟨RX6, "thaw", "(II)I"⟩
abbrev cX6_luck : ByteArray := prog_1_method_29_code
def yX6_luck : MethodName := ⟨RX6, "luck", "(III)J"⟩
abbrev cX6_mean : ByteArray := prog_1_method_30_code
def yX6_mean : MethodName := ⟨RX6, "mean", "(III)J"⟩
abbrev cX6_see : ByteArray := prog_1_method_31_code
def yX6_see : MethodName := ⟨RX6, "see", "(II)I"⟩
abbrev cX6_forget : ByteArray := prog_1_method_32_code
def yX6_forget : MethodName := ⟨RX6, "forget", "(I)I"⟩
abbrev cX6_kinds : ByteArray := prog_1_method_33_code
def yX6_kinds : MethodName := ⟨RX6, "kinds", "(I)I"⟩
abbrev cX6_sizes : ByteArray := prog_1_method_34_code
def yX6_sizes : MethodName := ⟨RX6, "sizes", "(I)I"⟩
abbrev cX6_leans : ByteArray := prog_1_method_35_code
def yX6_leans : MethodName := ⟨RX6, "leans", "(II)I"⟩
abbrev cX6_ask : ByteArray := prog_1_method_36_code
def yX6_ask : MethodName := ⟨RX6, "ask", "(II)I"⟩
abbrev cX6_drift : ByteArray := prog_1_method_37_code
def yX6_drift : MethodName := ⟨RX6, "drift", "(III)I"⟩
abbrev cX6_keep : ByteArray := prog_1_method_38_code
def yX6_keep : MethodName := ⟨RX6, "keep", "(I)I"⟩
abbrev cX6_back : ByteArray := prog_1_method_39_code
def yX6_back : MethodName := ⟨RX6, "back", "(I)I"⟩
abbrev cX6_sheet : ByteArray := prog_1_method_40_code
def yX6_sheet : MethodName := ⟨RX6, "sheet", "(III)I"⟩
abbrev cX6_lay : ByteArray := prog_1_method_41_code
def yX6_lay : MethodName := ⟨RX6, "lay", "(III)I"⟩
abbrev cX6_read : ByteArray := prog_1_method_42_code
def yX6_read : MethodName := ⟨RX6, "read", "(IIII)I"⟩
abbrev cX6_torn : ByteArray := prog_1_method_43_code
def yX6_torn : MethodName := ⟨RX6, "torn", "()I"⟩
abbrev cX6_count : ByteArray := prog_1_method_44_code
def yX6_count : MethodName := ⟨RX6, "count", "(I)I"⟩
abbrev cX6_within : ByteArray := prog_1_method_45_code
def yX6_within : MethodName := ⟨RX6, "within", "(II)Z"⟩
abbrev cX6_isFigure : ByteArray := prog_1_method_46_code
def yX6_isFigure : MethodName := ⟨RX6, "isFigure", "(I)Z"⟩
abbrev cX6_sum : ByteArray := prog_1_method_47_code
def yX6_sum : MethodName := ⟨RX6, "sum", "([I)I"⟩
abbrev cX6_chosen : ByteArray := prog_1_method_48_code
def yX6_chosen : MethodName := ⟨RX6, "chosen", "(III)I"⟩
abbrev cX6_fraction : ByteArray := prog_1_method_49_code
def yX6_fraction : MethodName := ⟨RX6, "fraction", "(JJI)J"⟩
abbrev cX6_rollUp : ByteArray := prog_1_method_50_code
def yX6_rollUp : MethodName := ⟨RX6, "rollUp", "(II)I"⟩
abbrev cX6_daysTillProbeFalls : ByteArray := prog_1_method_51_code
def yX6_daysTillProbeFalls : MethodName := ⟨RX6, "daysTillProbeFalls", "()I"⟩
abbrev cX6_longest : ByteArray := prog_1_method_52_code
def yX6_longest : MethodName := ⟨RX6, "longest", "(III)I"⟩
abbrev cX6_afterSalt : ByteArray := prog_1_method_53_code
def yX6_afterSalt : MethodName := ⟨RX6, "afterSalt", "(IIIZ)J"⟩
abbrev cX6_weighed : ByteArray := prog_1_method_54_code
def yX6_weighed : MethodName := ⟨RX6, "weighed", "([LSnowReign$Row;LSnowReign$Province;IIIZ)J"⟩
abbrev cX6_passSalted : ByteArray := prog_1_method_55_code
def yX6_passSalted : MethodName := ⟨RX6, "passSalted", "([LSnowReign$Row;LSnowReign$Province;IZ)V"⟩
abbrev cX6_fittingBits : ByteArray := prog_1_method_56_code
def yX6_fittingBits : MethodName := ⟨RX6, "fittingBits", "(III)I"⟩
abbrev cX6_wouldFit : ByteArray := prog_1_method_57_code
def yX6_wouldFit : MethodName := ⟨RX6, "wouldFit", "(III)Z"⟩
abbrev cX6_lastSeen : ByteArray := prog_1_method_58_code
def yX6_lastSeen : MethodName := ⟨RX6, "lastSeen", "()I"⟩
abbrev cX6_isAsSeen : ByteArray := prog_1_method_59_code
def yX6_isAsSeen : MethodName := ⟨RX6, "isAsSeen", "(II)Z"⟩
abbrev cX6_foreseeByKind : ByteArray := prog_1_method_60_code
def yX6_foreseeByKind : MethodName := ⟨RX6, "foreseeByKind", "(I)V"⟩
abbrev cX6_mostAlike : ByteArray := prog_1_method_61_code
def yX6_mostAlike : MethodName := ⟨RX6, "mostAlike", "(II)I"⟩
def RX7 : String := "SnowReignModel"
def TX7 : u_T := fun k => match k with
  | 0 => ("SnowReignModel", "state", "[I", true)
  | 1 => ("SnowReignModel", "readPage", "[I", true)
  | 2 => ("SnowReignModel", "toldDays", "I", false)
  | 3 => ("SnowReignModel", "tape", "[I", true)
  | 4 => ("SnowReignModel", "taped", "I", false)
  | 5 => ("SnowReignModel", "fault", "I", false)
  | 6 => ("SnowReignModel", "broken", "I", false)
  | 7 => ("SnowReignModel", "brokenAt", "I", false)
  | 8 => ("SnowReignModel", "spot", "I", false)
  | 9 => ("SnowReignModel", "here", "I", false)
  | 10 => ("SnowReignModel", "token", "I", false)
  | 11 => ("SnowReignModel", "value", "I", false)
  | 12 => ("SnowReignModel", "ends", "[I", true)
  | 13 => ("SnowReignModel", "letters", "[I", true)
  | 14 => ("SnowReignModel", "nobody", "I", false)
  | 15 => ("SnowReignModel", "reigned", "I", false)
  | 16 => ("SnowReignModel", "changes", "I", false)
  | 17 => ("SnowReignModel", "reigns", "[I", true)
  | 18 => ("SnowReignModel", "seen", "[I", true)
  | 19 => ("SnowReignModel", "seenMany", "I", false)
  | 20 => ("SnowReignModel", "decreeBy", "[I", true)
  | 21 => ("SnowReignModel", "isKept", "[Z", true)
  | 22 => ("SnowReignModel", "lanes", "[I", true)
  | 23 => ("SnowReignModel", "lengths", "[I", true)
  | 24 => ("SnowReignModel", "cells", "[I", true)
  | _ => ("SnowReignModel", "torn", "I", false)
def tyX7 : Nat → FieldType := fun k => match k with
  | 0 => .array .int
  | 1 => .array .int
  | 2 => .int
  | 3 => .array .int
  | 4 => .int
  | 5 => .int
  | 6 => .int
  | 7 => .int
  | 8 => .int
  | 9 => .int
  | 10 => .int
  | 11 => .int
  | 12 => .array .int
  | 13 => .array .int
  | 14 => .int
  | 15 => .int
  | 16 => .int
  | 17 => .array .int
  | 18 => .array .int
  | 19 => .int
  | 20 => .array .int
  | 21 => .array .boolean
  | 22 => .array .int
  | 23 => .array .int
  | 24 => .array .int
  | _ => .int
abbrev wsX70 : List Cond := u_ws RX7 TX7 26
theorem nmX7 : ∀ a, a < 26 → ∀ b, b < 26 → a ≠ b → (TX7 a).2.1 ≠ (TX7 b).2.1 := by decide +kernel
theorem tyX7_ok : ∀ k, k < 26 → parseFieldDescriptor (TX7 k).2.2.1 = some (tyX7 k) := by decide +kernel
abbrev cX7_init : ByteArray := prog_9_method_1_code
def yX7_init : MethodName := ⟨RX7, "<init>", "()V"⟩
abbrev cX7_in : ByteArray := prog_9_method_3_code
def yX7_in : MethodName := ⟨RX7, "in", "(JJJ)Z"⟩
abbrev cX7_feed : ByteArray := prog_9_method_4_code
def yX7_feed : MethodName := ⟨RX7, "feed", "(I)I"⟩
abbrev cX7_end : ByteArray := prog_9_method_5_code
def yX7_end : MethodName := ⟨RX7, "end", "(I)I"⟩
abbrev cX7_byteAt : ByteArray := prog_9_method_6_code
def yX7_byteAt : MethodName := ⟨RX7, "byteAt", "(I)I"⟩
abbrev cX7_fails : ByteArray := prog_9_method_7_code
def yX7_fails : MethodName := ⟨RX7, "fails", "(I)V"⟩
abbrev cX7_nameHere : ByteArray := prog_9_method_8_code
def yX7_nameHere : MethodName := ⟨RX7, "nameHere", "()I"⟩
abbrev cX7_step : ByteArray := prog_9_method_9_code
def yX7_step : MethodName := ⟨RX7, "step", "()V"⟩
abbrev cX7_number : ByteArray := prog_9_method_10_code
def yX7_number : MethodName := ⟨RX7, "number", "(II)I"⟩
abbrev cX7_readMore : ByteArray := prog_9_method_11_code
def yX7_readMore : MethodName := ⟨RX7, "readMore", "(I)V"⟩
abbrev cX7_readLine : ByteArray := prog_9_method_12_code
def yX7_readLine : MethodName := ⟨RX7, "readLine", "()V"⟩
abbrev cX7_text : ByteArray := prog_9_method_13_code
def yX7_text : MethodName := ⟨RX7, "text", "()I"⟩
abbrev cX7_fault : ByteArray := prog_9_method_14_code
def yX7_fault : MethodName := ⟨RX7, "fault", "()I"⟩
abbrev cX7_isFigure : ByteArray := prog_9_method_15_code
def yX7_isFigure : MethodName := ⟨RX7, "isFigure", "(I)Z"⟩
abbrev cX7_warmOn : ByteArray := prog_9_method_16_code
def yX7_warmOn : MethodName := ⟨RX7, "warmOn", "(I)I"⟩
abbrev cX7_windOn : ByteArray := prog_9_method_17_code
def yX7_windOn : MethodName := ⟨RX7, "windOn", "(I)I"⟩
abbrev cX7_meltsOn : ByteArray := prog_9_method_18_code
def yX7_meltsOn : MethodName := ⟨RX7, "meltsOn", "(III)I"⟩
abbrev cX7_tipsOn : ByteArray := prog_9_method_19_code
def yX7_tipsOn : MethodName := ⟨RX7, "tipsOn", "(III)I"⟩
abbrev cX7_dayOn : ByteArray := prog_9_method_20_code
def yX7_dayOn : MethodName := ⟨RX7, "dayOn", "(III)V"⟩
abbrev cX7_goesOn : ByteArray := prog_9_method_21_code
def yX7_goesOn : MethodName := ⟨RX7, "goesOn", "(I)V"⟩
abbrev cX7_standOn : ByteArray := prog_9_method_22_code
def yX7_standOn : MethodName := ⟨RX7, "standOn", "(I)I"⟩
abbrev cX7_reignsOn : ByteArray := prog_9_method_23_code
def yX7_reignsOn : MethodName := ⟨RX7, "reignsOn", "(I)I"⟩
abbrev cX7_decreeOn : ByteArray := prog_9_method_24_code
def yX7_decreeOn : MethodName := ⟨RX7, "decreeOn", "(I)I"⟩
abbrev cX7_sizeOn : ByteArray := prog_9_method_25_code
def yX7_sizeOn : MethodName := ⟨RX7, "sizeOn", "(I)I"⟩
abbrev cX7_bitsOf : ByteArray := prog_9_method_26_code
def yX7_bitsOf : MethodName := ⟨RX7, "bitsOf", "(I)I"⟩
abbrev cX7_rule : ByteArray := prog_9_method_27_code
def yX7_rule : MethodName := ⟨RX7, "rule", "(I)I"⟩
abbrev cX7_figure : ByteArray := prog_9_method_28_code
def yX7_figure : MethodName := ⟨RX7, "figure", "(II)I"⟩
abbrev cX7_week : ByteArray := prog_9_method_29_code
def yX7_week : MethodName := ⟨RX7, "week", "(II)I"⟩
abbrev cX7_puts : ByteArray := prog_9_method_30_code
def yX7_puts : MethodName := ⟨RX7, "puts", "(ZIII)I"⟩
abbrev cX7_alter : ByteArray := prog_9_method_31_code
def yX7_alter : MethodName := ⟨RX7, "alter", "(III)I"⟩
abbrev cX7_set : ByteArray := prog_9_method_32_code
def yX7_set : MethodName := ⟨RX7, "set", "(III)I"⟩
abbrev cX7_rolls : ByteArray := prog_9_method_33_code
def yX7_rolls : MethodName := ⟨RX7, "rolls", "(II)I"⟩
abbrev cX7_roll : ByteArray := prog_9_method_34_code
def yX7_roll : MethodName := ⟨RX7, "roll", "(II)I"⟩
abbrev cX7_stands : ByteArray := prog_9_method_35_code
def yX7_stands : MethodName := ⟨RX7, "stands", "(I)I"⟩
abbrev cX7_ice : ByteArray := prog_9_method_36_code
def yX7_ice : MethodName := ⟨RX7, "ice", "(I)I"⟩
abbrev cX7_salt : ByteArray := prog_9_method_37_code
def yX7_salt : MethodName := ⟨RX7, "salt", "(I)I"⟩
abbrev cX7_clear : ByteArray := prog_9_method_38_code
def yX7_clear : MethodName := ⟨RX7, "clear", "(I)I"⟩
abbrev cX7_days : ByteArray := prog_9_method_39_code
def yX7_days : MethodName := ⟨RX7, "days", "(I)I"⟩
abbrev cX7_copies : ByteArray := prog_9_method_40_code
def yX7_copies : MethodName := ⟨RX7, "copies", "(II)V"⟩
abbrev cX7_daysGo : ByteArray := prog_9_method_41_code
def yX7_daysGo : MethodName := ⟨RX7, "daysGo", "(II)V"⟩
abbrev cX7_runs : ByteArray := prog_9_method_42_code
def yX7_runs : MethodName := ⟨RX7, "runs", "(II)I"⟩
abbrev cX7_ahead : ByteArray := prog_9_method_43_code
def yX7_ahead : MethodName := ⟨RX7, "ahead", "(III)I"⟩
abbrev cX7_fallsOn : ByteArray := prog_9_method_44_code
def yX7_fallsOn : MethodName := ⟨RX7, "fallsOn", "(II)I"⟩
abbrev cX7_falls : ByteArray := prog_9_method_45_code
def yX7_falls : MethodName := ⟨RX7, "falls", "(I)I"⟩
abbrev cX7_lowest : ByteArray := prog_9_method_46_code
def yX7_lowest : MethodName := ⟨RX7, "lowest", "(JJI)J"⟩
abbrev cX7_reign : ByteArray := prog_9_method_47_code
def yX7_reign : MethodName := ⟨RX7, "reign", "(III)J"⟩
abbrev cX7_decree : ByteArray := prog_9_method_48_code
def yX7_decree : MethodName := ⟨RX7, "decree", "(I)I"⟩
abbrev cX7_coup : ByteArray := prog_9_method_49_code
def yX7_coup : MethodName := ⟨RX7, "coup", "()I"⟩
abbrev cX7_need : ByteArray := prog_9_method_50_code
def yX7_need : MethodName := ⟨RX7, "need", "(II)I"⟩
abbrev cX7_bucket : ByteArray := prog_9_method_51_code
def yX7_bucket : MethodName := ⟨RX7, "bucket", "(I)I"⟩
abbrev cX7_swap : ByteArray := prog_9_method_52_code
def yX7_swap : MethodName := ⟨RX7, "swap", "(II)I"⟩
abbrev cX7_lee : ByteArray := prog_9_method_53_code
def yX7_lee : MethodName := ⟨RX7, "lee", "(II)I"⟩
abbrev cX7_lastsOn : ByteArray := prog_9_method_54_code
def yX7_lastsOn : MethodName := ⟨RX7, "lastsOn", "(II)I"⟩
abbrev cX7_kind : ByteArray := prog_9_method_55_code
def yX7_kind : MethodName := ⟨RX7, "kind", "(II)I"⟩
abbrev cX7_face : ByteArray := prog_9_method_56_code
def yX7_face : MethodName := ⟨RX7, "face", "(II)I"⟩
abbrev cX7_thaw : ByteArray := prog_9_method_57_code
def yX7_thaw : MethodName := ⟨RX7, "thaw", "(II)I"⟩
abbrev cX7_bySalt : ByteArray := prog_9_method_58_code
def yX7_bySalt : MethodName := ⟨RX7, "bySalt", "(IIZI)J"⟩
abbrev cX7_luck : ByteArray := prog_9_method_59_code
def yX7_luck : MethodName := ⟨RX7, "luck", "(III)J"⟩
abbrev cX7_mean : ByteArray := prog_9_method_60_code
def yX7_mean : MethodName := ⟨RX7, "mean", "(III)J"⟩
abbrev cX7_see : ByteArray := prog_9_method_61_code
def yX7_see : MethodName := ⟨RX7, "see", "(II)I"⟩
abbrev cX7_forget : ByteArray := prog_9_method_62_code
def yX7_forget : MethodName := ⟨RX7, "forget", "(I)I"⟩
abbrev cX7_isAsSeen : ByteArray := prog_9_method_63_code
def yX7_isAsSeen : MethodName := ⟨RX7, "isAsSeen", "(I)Z"⟩
abbrev cX7_kindsOf : ByteArray := prog_9_method_64_code
def yX7_kindsOf : MethodName := ⟨RX7, "kindsOf", "(I)I"⟩
abbrev cX7_kinds : ByteArray := prog_9_method_65_code
def yX7_kinds : MethodName := ⟨RX7, "kinds", "(I)I"⟩
abbrev cX7_sizes : ByteArray := prog_9_method_66_code
def yX7_sizes : MethodName := ⟨RX7, "sizes", "(I)I"⟩
abbrev cX7_leans : ByteArray := prog_9_method_67_code
def yX7_leans : MethodName := ⟨RX7, "leans", "(II)I"⟩
abbrev cX7_ask : ByteArray := prog_9_method_68_code
def yX7_ask : MethodName := ⟨RX7, "ask", "(II)I"⟩
abbrev cX7_drift : ByteArray := prog_9_method_69_code
def yX7_drift : MethodName := ⟨RX7, "drift", "(III)I"⟩
abbrev cX7_keep : ByteArray := prog_9_method_70_code
def yX7_keep : MethodName := ⟨RX7, "keep", "(I)I"⟩
abbrev cX7_back : ByteArray := prog_9_method_71_code
def yX7_back : MethodName := ⟨RX7, "back", "(I)I"⟩
abbrev cX7_sheet : ByteArray := prog_9_method_72_code
def yX7_sheet : MethodName := ⟨RX7, "sheet", "(III)I"⟩
abbrev cX7_lay : ByteArray := prog_9_method_73_code
def yX7_lay : MethodName := ⟨RX7, "lay", "(III)I"⟩
abbrev cX7_read : ByteArray := prog_9_method_74_code
def yX7_read : MethodName := ⟨RX7, "read", "(IIII)I"⟩
abbrev cX7_torn : ByteArray := prog_9_method_75_code
def yX7_torn : MethodName := ⟨RX7, "torn", "()I"⟩
abbrev cX7_count : ByteArray := prog_9_method_76_code
def yX7_count : MethodName := ⟨RX7, "count", "(I)I"⟩
def RJ6 : String := "java/lang/Integer"
abbrev cJ6_bitCount_0f7a4 : ByteArray := prog_10_method_49_code
def yJ6_bitCount_0f7a4 : MethodName := ⟨RJ6, "bitCount", "(I)I"⟩
def RJ9 : String := "java/lang/Math"
abbrev cJ9_abs_0f7a4 : ByteArray := prog_11_method_59_code
def yJ9_abs_0f7a4 : MethodName := ⟨RJ9, "abs", "(I)I"⟩
abbrev cJ9_max_7cf53 : ByteArray := prog_11_method_65_code
def yJ9_max_7cf53 : MethodName := ⟨RJ9, "max", "(II)I"⟩
abbrev cJ9_min_7cf53 : ByteArray := prog_11_method_69_code
def yJ9_min_7cf53 : MethodName := ⟨RJ9, "min", "(II)I"⟩
def RJ0 : String := "java/lang/String"
abbrev cJ0_length_8abf5 : ByteArray := prog_12_method_54_code
def yJ0_length_8abf5 : MethodName := ⟨RJ0, "length", "()I"⟩
abbrev cJ0_charAt_5068e : ByteArray := prog_12_method_56_code
def yJ0_charAt_5068e : MethodName := ⟨RJ0, "charAt", "(I)C"⟩
abbrev cJ0_coder_7d493 : ByteArray := prog_12_method_152_code
def yJ0_coder_7d493 : MethodName := ⟨RJ0, "coder", "()B"⟩
abbrev cJ0_isLatin1_aae02 : ByteArray := prog_12_method_154_code
def yJ0_isLatin1_aae02 : MethodName := ⟨RJ0, "isLatin1", "()Z"⟩
abbrev cJ0_checkIndex_df160 : ByteArray := prog_12_method_155_code
def yJ0_checkIndex_df160 : MethodName := ⟨RJ0, "checkIndex", "(II)V"⟩
def RJ1 : String := "java/lang/StringLatin1"
abbrev cJ1_charAt_3b067 : ByteArray := prog_13_method_2_code
def yJ1_charAt_3b067 : MethodName := ⟨RJ1, "charAt", "([BI)C"⟩
def RJ2 : String := "java/lang/StringUTF16"
abbrev cJ2_getChar_3b067 : ByteArray := prog_14_method_5_code
def yJ2_getChar_3b067 : MethodName := ⟨RJ2, "getChar", "([BI)C"⟩
abbrev cJ2_length_9d52b : ByteArray := prog_14_method_6_code
def yJ2_length_9d52b : MethodName := ⟨RJ2, "length", "([B)I"⟩
abbrev cJ2_charAt_3b067 : ByteArray := prog_14_method_83_code
def yJ2_charAt_3b067 : MethodName := ⟨RJ2, "charAt", "([BI)C"⟩
abbrev cJ2_checkIndex_2214a : ByteArray := prog_14_method_91_code
def yJ2_checkIndex_2214a : MethodName := ⟨RJ2, "checkIndex", "(I[B)V"⟩
def RJ10 : String := "java/lang/System"
def RJ7 : String := "java/util/Arrays"
abbrev cJ7_fill_53178 : ByteArray := prog_16_method_103_code
def yJ7_fill_53178 : MethodName := ⟨RJ7, "fill", "([II)V"⟩
def RJ3 : String := "jdk/internal/util/Preconditions"
abbrev cJ3_checkIndex_8e157 : ByteArray := prog_17_method_11_code
def yJ3_checkIndex_8e157 : MethodName := ⟨RJ3, "checkIndex", "(IILjava/util/function/BiFunction;)I"⟩
def RL : String := "SnowReignLaw"
abbrev cL_law : ByteArray := code
def yL_law : MethodName := ⟨RL, "law", "([I)Z"⟩
abbrev vwCl : List vw_C := [(RX0, TX0, 3), (RX1, TX1, 4), (RX2, TX2, 2), (RX3, TX3, 3), (RX4, TX4, 6), (RX5, TX5, 6), (RX6, TX6, 14), (RX7, TX7, 26)]
