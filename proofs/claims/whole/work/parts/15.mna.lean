theorem zm_rows_eq (h : zm_H) (K : Nat) : ∀ n : Nat, (zm_rows h K n).1 = h.1 + n ∧ (zm_rows h K n).2.1 = h.2.1 + n * K ∧ ∀ b : Nat, (zm_rows h K n).2.2 b = if h.1 ≤ b ∧ b < h.1 + n then (.inl (0, K, .inl (fun _ => 0)) : va_E) else h.2.2 b
  | 0 => ⟨rfl, by simp [zm_rows], fun b => by rw [if_neg (by omega)]; rfl⟩
  | n + 1 => by
    obtain ⟨e1, e2, e3⟩ := zm_rows_eq h K n
    refine ⟨?_, ?_, fun b => ?_⟩
    · show (zm_rows h K n).1 + 1 = _
      rw [e1]; omega
    · show (zm_rows h K n).2.1 + K = _
      rw [e2, Nat.succ_mul]; omega
    · show (if b = (zm_rows h K n).1 then _ else (zm_rows h K n).2.2 b) = _
      rw [e1, e3]
      by_cases h1 : b = h.1 + n
      · rw [if_pos h1, if_pos (by omega)]
      · rw [if_neg h1]
        by_cases h2 : h.1 ≤ b ∧ b < h.1 + n
        · rw [if_pos h2, if_pos (by omega)]
        · rw [if_neg h2, if_neg (by omega)]
theorem zs_nn {M pc i : Nat} (hd : decode (zm_cc M) pc = .ok (.multianewarray i 2, 4)) (hw : Cond.classLink (zm_y M).cls i "[[I" ∈ zT) (hw2 : Cond.arrayClass (newarray.typeOf .int) ∈ zT) : zm_Snd M pc (zi_nn (pc + 4)) := by
  have hx : ∀ {ls st : List Value} {h : zm_H} {x : zm_R}, zi_nn (pc + 4) ls st h = some x → ∃ k r st0, st = .int k :: .int r :: st0 ∧ (h.1 < 900000 ∧ ¬ k < 0 ∧ k.toNatClampNeg ≤ 1000 ∧ ¬ r < 0 ∧ r.toNatClampNeg ≤ 1000) ∧ x = .inl (pc + 4, ls, .ref h.1 :: st0, zm_rows (zm_n h r.toNatClampNeg (.inl (7, r.toNatClampNeg, .inr (.inr (.inr (.inr (fun i => if i < r.toNatClampNeg then some (h.1 + 1 + i) else none))))))) k.toNatClampNeg r.toNatClampNeg) := by
    intro ls st h x hh
    unfold zi_nn at hh
    split at hh
    · split at hh
      · rename_i hl
        exact ⟨_, _, _, rfl, hl, (Option.some.inj hh).symm⟩
      · cases hh
    · cases hh
  refine ⟨fun hh => ?_, fun hh => ?_, fun hh => ?_, ?_⟩
  · obtain ⟨k, r, _, -, -, e⟩ := hx hh
    cases e
    rename_i ls st h st0
    obtain ⟨e1, e2, -⟩ := zm_rows_eq (zm_n h r.toNatClampNeg (.inl (7, r.toNatClampNeg, .inr (.inr (.inr (.inr (fun i => if i < r.toNatClampNeg then some (h.1 + 1 + i) else none))))))) k.toNatClampNeg r.toNatClampNeg
    rw [e1, e2]
    refine ⟨?_, ?_⟩
    · show h.1 ≤ h.1 + 1 + _
      omega
    · show h.2.1 ≤ h.2.1 + _ + _
      omega
  · obtain ⟨_, _, _, -, -, e⟩ := hx hh
    cases e
  · obtain ⟨_, _, _, -, -, e⟩ := hx hh
    cases e
  · intro sp L xs dC dI A p l e R s m args below meth c H locs cells slots Q ws LS ST ls st h pc' ls' st' h' X S hf hc1 hc2 kk
    obtain ⟨k, r, st0, rfl, ⟨hl, hk0, hk1, hr0, hr1⟩, e⟩ := hx hf
    cases e
    generalize hN : r.toNatClampNeg = N at *
    generalize hKK : k.toNatClampNeg = K at *
    obtain ⟨e1, e2, e3⟩ := zm_rows_eq (zm_n h N (.inl (7, N, .inr (.inr (.inr (.inr (fun i => if i < N then some (h.1 + 1 + i) else none))))))) K N
    have f1 : (zm_rows (zm_n h N (.inl (7, N, .inr (.inr (.inr (.inr (fun i => if i < N then some (h.1 + 1 + i) else none))))))) K N).1 = h.1 + 1 + N := e1
    have f2 : (zm_rows (zm_n h N (.inl (7, N, .inr (.inr (.inr (.inr (fun i => if i < N then some (h.1 + 1 + i) else none))))))) K N).2.1 = h.2.1 + N + N * K := e2
    have f3 : ∀ b : Nat, (zm_rows (zm_n h N (.inl (7, N, .inr (.inr (.inr (.inr (fun i => if i < N then some (h.1 + 1 + i) else none))))))) K N).2.2 b = if h.1 + 1 ≤ b ∧ b < h.1 + 1 + N then (.inl (0, K, .inl (fun _ => 0)) : va_E) else if b = h.1 then .inl (7, N, .inr (.inr (.inr (.inr (fun i => if i < N then some (h.1 + 1 + i) else none))))) else h.2.2 b := e3
    generalize zm_rows (zm_n h N (.inl (7, N, .inr (.inr (.inr (.inr (fun i => if i < N then some (h.1 + 1 + i) else none))))))) K N = h9 at *
    have g1 : h9.1 - h.1 = 1 + N := by omega
    have g2 : h9.2.1 - h.2.1 = N + N * K := by omega
    rw [g1] at hc1 kk
    rw [g2] at hc2 kk
    obtain ⟨ST0, rfl, h0⟩ := zv_i S.2.2.2.2.2
    obtain ⟨ST1, rfl, h1⟩ := zv_i h0
    obtain ⟨cy, kA, comp, hcy, hkA, hkd⟩ := Cond.arrayClass_spec (X.2.2.2.2.1 _ hw2)
    have hao : va_AOA .int s := by
      obtain ⟨b, t0, adK, adV, -, -, -, -, -, o1, -⟩ := X.2.2.2.2.2.2.1
      exact o1.2.2.2.2
    have hP0 : va_P (dC, dI) vwCl (ws ++ va_pl [] (fun _ => zm_J)) H := by
      show va_P (dC, dI) vwCl (ws ++ []) H
      rw [List.append_nil]; exact S.1
    have hD0 : va_D A (ws ++ va_pl [] (fun _ => zm_J)) := by
      show va_D A (ws ++ [])
      rw [List.append_nil]; exact S.2.1
    have hmul : N * K ≤ 1000 * 1000 := Nat.mul_le_mul hr1 hk1
    refine va_mna (ty := .int) (cy := cy) (z := (K, .inl (fun _ => 0))) X.1 X.2.1 X.2.2.2.1 (X.2.2.2.2.1 _ hw) hao (X.2.2.2.2.1 _ hw2) hcy X.2.2.2.2.2.1 hP0 hD0 S.2.2.1 X.2.2.2.2.2.2.2.1 hr0 hk0 hN hKK (by omega) (by show K * 4 ≤ _; omega) (by omega) rfl rfl hc1 hc2 (fun c0 => ?_) hd ?_
    · rw [show vp_cell c0 (K, .inl (fun _ => 0)) = arrV c0 K (fun _ => .int 0) from rfl, ← arrV_new]
      rfl
    intro q rr cA H1 hinj hnl k0 k1 k2 k3
    rw [Nat.add_assoc cells, Nat.add_assoc slots]
    have hK7 := k0.2 0 (cA, .array .int) rfl
    have hAr : ArrOfT s cy .int := fun n z => ⟨fun k h => (by cases h), kA, hkA, comp, hkd⟩
    have hpl : va_pl ([] ++ (List.range N).map rr) (vr_up (fun _ => zm_J) ((List.range N).map rr) (.inl (cy, (K, .inl (fun _ => 0))))) = (List.range N).map (fun j => (rr j, (.inl (cy, K, .inl (fun _ => 0)) : va_E))) := by
      show ((List.range N).map rr).map _ = _
      rw [List.map_map]
      apply List.map_congr_left
      intro j hj
      show (rr j, vr_up _ _ _ (rr j)) = _
      rw [vr_up_in (List.mem_map.mpr ⟨j, hj, rfl⟩)]
    rw [hpl] at k1 k2
    have hlen := S.2.2.2.1.1
    have at_row : ∀ j : Nat, j < N → ((ws ++ [(q, (.inl (cA, N, .inr (.inr (.inr (.inr (fun i => if i < N then some (rr i) else none))))) : va_E))]) ++ (List.range N).map (fun j => (rr j, (.inl (cy, K, .inl (fun _ => 0)) : va_E))))[h.1 + 1 + j]? = some (rr j, .inl (cy, K, .inl (fun _ => 0))) := by
      intro j hj
      rw [List.getElem?_append_right (by rw [List.length_append, hlen]; show h.1 + 1 ≤ _; omega)]
      rw [List.length_append, hlen]
      show ((List.range N).map _)[h.1 + 1 + j - (h.1 + 1)]? = _
      rw [Nat.add_sub_cancel_left, List.getElem?_map, List.getElem?_range hj]
      rfl
    have at_out : ((ws ++ [(q, (.inl (cA, N, .inr (.inr (.inr (.inr (fun i => if i < N then some (rr i) else none))))) : va_E))]) ++ (List.range N).map (fun j => (rr j, (.inl (cy, K, .inl (fun _ => 0)) : va_E))))[h.1]? = some (q, .inl (cA, N, .inr (.inr (.inr (.inr (fun i => if i < N then some (rr i) else none)))))) := by
      rw [List.getElem?_append_left (by rw [List.length_append, hlen]; show h.1 < h.1 + 1; omega), ← hlen]
      simp
    have hE : zm_E ws ((ws ++ [(q, (.inl (cA, N, .inr (.inr (.inr (.inr (fun i => if i < N then some (rr i) else none))))) : va_E))]) ++ (List.range N).map (fun j => (rr j, (.inl (cy, K, .inl (fun _ => 0)) : va_E)))) := zm_E_trans (zm_E_app _ _) (zm_E_app _ _)
    have hwl : ((ws ++ [(q, (.inl (cA, N, .inr (.inr (.inr (.inr (fun i => if i < N then some (rr i) else none))))) : va_E))]) ++ (List.range N).map (fun j => (rr j, (.inl (cy, K, .inl (fun _ => 0)) : va_E)))).length = h.1 + 1 + N := by
      rw [List.length_append, List.length_append, List.length_map, List.length_range, hlen]
      rfl
    have hkeep : ∀ (a : Nat) (q0 : Nat × va_E), ws[a]? = some q0 → ((ws ++ [(q, (.inl (cA, N, .inr (.inr (.inr (.inr (fun i => if i < N then some (rr i) else none))))) : va_E))]) ++ (List.range N).map (fun j => (rr j, (.inl (cy, K, .inl (fun _ => 0)) : va_E))))[a]? = some q0 := by
      intro a q0 ha
      have hal := (List.getElem?_eq_some_iff.mp ha).1
      rw [List.getElem?_append_left (by rw [List.length_append]; omega), List.getElem?_append_left hal]
      exact ha
    generalize (ws ++ [(q, (.inl (cA, N, .inr (.inr (.inr (.inr (fun i => if i < N then some (rr i) else none))))) : va_E))]) ++ (List.range N).map (fun j => (rr j, (.inl (cy, K, .inl (fun _ => 0)) : va_E))) = wz at *
    obtain ⟨lv, l1, l2⟩ := S.2.2.2.2.1
    refine kk H1 locs wz LS _ hE ⟨k1, k2, k3, ⟨by rw [hwl, f1], by rw [f1]; omega, fun a ha => ?_, fun a ha hne => ?_, ?_⟩, ⟨lv, l1, zm_Lr_E hE l2⟩, zm_cv_lt (by omega) at_out, zm_Vr_E hE h1⟩
    · rw [f1] at ha
      rw [f3]
      by_cases c1 : h.1 + 1 ≤ a ∧ a < h.1 + 1 + N
      · rw [if_pos c1]
        obtain ⟨j, rfl⟩ : ∃ j : Nat, a = h.1 + 1 + j := ⟨a - (h.1 + 1), by omega⟩
        exact ⟨_, at_row j (by omega), rfl, rfl, hAr, hcy⟩
      · rw [if_neg c1]
        by_cases c2 : a = h.1
        · rw [if_pos c2, c2]
          refine ⟨_, at_out, rfl, fun j => ?_, hK7.1, hK7.2⟩
          by_cases c3 : j < N
          · simp only [c3, if_true]
            exact ⟨by omega, _, at_row j c3, rfl⟩
          · simp only [c3, if_false]
        · rw [if_neg c2]
          obtain ⟨q0, q1, q2⟩ := S.2.2.2.1.2.2.1 a (by omega)
          exact ⟨q0, hkeep a q0 q1, zm_cr_E hE q2⟩
    · rw [f1] at ha
      rw [f3, if_neg (by omega), if_neg (by omega)]
      exact S.2.2.2.1.2.2.2.1 a (by omega) hne
    · rw [f3, if_neg (by omega), if_neg (by omega)]
      exact S.2.2.2.1.2.2.2.2
