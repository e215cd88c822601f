/-- what both sides hold: the province; the tape; the two faults; what was seen; kept, images; the sheets (lane, length, cells) -/
abbrev zy_T : Type := zp_T × (Nat × (Nat → Int32)) × (Int32 × Int32) × (Nat × (Nat → Int32) × (Nat → Int32)) × ((Nat → Int32) × (Nat → zp_T)) × (Nat → Int32 × Nat × (Nat → Int32))
def zk_Z (h : zm_H) : Prop := (∃ P, zp_V h 11 P) ∧ (∃ f, zm_g h 21 = zf_c f) ∧ (∃ g, zm_g h 22 = .inl (4, 9, .inr (.inr (.inr (.inr g)))) ∧ ∀ j, j < 9 → g j = some (23 + 7 * j)) ∧ (∀ j, j < 9 → ∃ ad n v, zr_W h (23 + 7 * j) ad n v) ∧ (∃ g, zm_g h 86 = .inl (7, 4, .inr (.inr (.inr (.inr g)))) ∧ ∀ j, j < 4 → g j = some (87 + j)) ∧ ∀ j, j < 4 → ∃ w, zm_g h (87 + j) = .inl (0, 31, .inl w)
def zk_X (h : zm_H) (t : Nat × (Nat → Int32)) : Prop := t.1 ≤ 160 ∧ (∀ j, j < t.1 → ∃ b, b < 128 ∧ t.2 j = nI b) ∧ (∃ a b c d, zm_g h 92 = .inr (4, [.ref 93, .int (nI t.1), .int a, .int b, .int c, .int d])) ∧ (∃ g, zm_g h 93 = .inl (1, 160, .inl g) ∧ ∀ j, j < t.1 → g j = t.2 j) ∧ (∃ a b c d, zm_g h 91 = .inr (5, [.ref 92, .ref 94, .int a, .int b, .int c, .int d])) ∧ ∃ P, zp_V h 94 P
def zk_E (h : zm_H) (s : Nat × (Nat → Int32) × (Nat → Int32)) : Prop := s.1 ≤ 6 ∧ (∃ g, zm_g h 104 = .inl (0, 6, .inl g) ∧ ∀ j, j < s.1 → g j = s.2.1 j) ∧ (∃ g, zm_g h 105 = .inl (0, 6, .inl g) ∧ ∀ j, j < s.1 → g j = s.2.2 j) ∧ ∀ j, j < s.1 → (∃ a, a < 31 ∧ s.2.1 j = nI a) ∧ ∃ b, b < 10 ∧ s.2.2 j = nI b
def zk_I (h : zm_H) (I : (Nat → Int32) × (Nat → zp_T)) : Prop := (∃ g, zm_g h 106 = .inl (5, 2, .inr (.inr (.inr (.inr g)))) ∧ ∀ j, j < 2 → g j = some (107 + 10 * j)) ∧ (∃ g, zm_g h 127 = .inl (2, 2, .inl g) ∧ ∀ j, j < 2 → g j = I.1 j) ∧ (∀ j, j < 2 → I.1 j = 0 ∨ I.1 j = 1) ∧ (∀ j, j < 2 → zp_V h (107 + 10 * j) (I.2 j)) ∧ ∀ j, j < 2 → I.1 j = 1 → zp_ok (I.2 j) ∧ (I.2 j).2.2.2.2 < 1000
def zk_H (h : zm_H) (S : Nat → Int32 × Nat × (Nat → Int32)) : Prop := (∃ g, zm_g h 128 = .inl (6, 4, .inr (.inr (.inr (.inr g)))) ∧ ∀ j, j < 4 → g j = some (129 + 2 * j)) ∧ (∀ j, j < 4 → zm_g h (129 + 2 * j) = .inr (3, [.ref (130 + 2 * j), .int (S j).1, .int (nI (S j).2.1)])) ∧ (∀ j, j < 4 → ∃ g, zm_g h (130 + 2 * j) = .inl (0, 40, .inl g) ∧ ∀ i, i < 40 → g i = (S j).2.2 i) ∧ ∀ j, j < 4 → ((S j).1 = -1 ∨ (S j).1 = 0 ∨ (S j).1 = 1 ∨ (S j).1 = 2) ∧ (S j).2.1 ≤ 40
/-- the class's cells, 0 to 136 -/
def zk_K (h : zm_H) (Y : zy_T) : Prop := zm_g h 0 = .inr (6, zk_c Y.2.2.1.1 (nI Y.2.2.2.1.1) Y.2.2.1.2) ∧ (zp_V h 1 Y.1 ∧ zp_ok Y.1 ∧ Y.1.2.2.2.2 < 1000) ∧ zk_Z h ∧ zk_X h Y.2.1 ∧ zk_E h Y.2.2.2.1 ∧ zk_I h Y.2.2.2.2.1 ∧ zk_H h Y.2.2.2.2.2
def zo_ends : List Int32 := [0, 6, 12, 15, 19, 22]
def zo_lets : List Int32 := [112, 111, 119, 100, 101, 114, 112, 97, 99, 107, 101, 100, 119, 101, 116, 105, 99, 101, 100, 100, 97, 121]
/-- the reference's cells, 137 to 149 -/
def zo_K (h : zm_H) (Y : zy_T) : Prop := ∃ A g : Nat → Int32, zo_M h 137 A g ∧ zs_P g 0 Y.1 ∧ (A 4 = nI Y.2.1.1 ∧ A 5 = Y.2.2.1.1 ∧ A 19 = nI Y.2.2.2.1.1 ∧ A 25 = Y.2.2.1.2) ∧ (∃ r, zm_g h 139 = .inl (0, 31, .inl r)) ∧ (∃ t, zm_g h 140 = .inl (0, 160, .inl t) ∧ ∀ j, j < Y.2.1.1 → t j = Y.2.1.2 j) ∧ (∃ e, zm_g h 141 = .inl (0, 6, .inl e) ∧ ∀ j, j < 6 → e j = zo_ends.getD j 0) ∧ (∃ e, zm_g h 142 = .inl (0, 22, .inl e) ∧ ∀ j, j < 22 → e j = zo_lets.getD j 0) ∧ (∃ r, zm_g h 143 = .inl (0, 5, .inl r)) ∧ (∃ s, zm_g h 144 = .inl (0, 12, .inl s) ∧ ∀ j, j < Y.2.2.2.1.1 → s (2 * j) = Y.2.2.2.1.2.1 j ∧ s (2 * j + 1) = if Y.2.2.2.1.2.2 j = 9 then -4 else Y.2.2.2.1.2.2 j) ∧ (∃ d, zm_g h 145 = .inl (0, 124, .inl d)) ∧ (∃ c, zm_g h 146 = .inl (2, 2, .inl c) ∧ ∀ j, j < 2 → c j = Y.2.2.2.2.1.1 j) ∧ (∀ j, j < 2 → Y.2.2.2.2.1.1 j = 1 → zs_P g (31 * (j + 1)) (Y.2.2.2.2.1.2 j)) ∧ (∃ l, zm_g h 147 = .inl (0, 4, .inl l) ∧ ∀ j, j < 4 → l j = if (Y.2.2.2.2.2 j).1 = -1 then -4 else (Y.2.2.2.2.2 j).1) ∧ (∃ l, zm_g h 148 = .inl (0, 4, .inl l) ∧ ∀ j, j < 4 → l j = nI (Y.2.2.2.2.2 j).2.1) ∧ ∃ c, zm_g h 149 = .inl (0, 160, .inl c) ∧ ∀ j, j < 4 → ∀ i, i < 40 → c (40 * j + i) = (Y.2.2.2.2.2 j).2.2 i
section ZPIC
variable {h h' : zm_H}
theorem zk_Zk (hz : zk_Z h) (hk : ∀ b, 11 ≤ b → b < 91 → zm_g h' b = zm_g h b) : zk_Z h' := by
  obtain ⟨⟨P, a⟩, ⟨f, b⟩, ⟨g, c1, c2⟩, d, ⟨g2, e1, e2⟩, k⟩ := hz
  refine ⟨⟨P, zV_keep a fun b h1 h2 => hk b (by omega) (by omega)⟩, ⟨f, by rw [hk 21 (by omega) (by omega)]; exact b⟩, ⟨g, by rw [hk 22 (by omega) (by omega)]; exact c1, c2⟩, fun j hj => ?_, ⟨g2, by rw [hk 86 (by omega) (by omega)]; exact e1, e2⟩, fun j hj => ?_⟩
  · obtain ⟨ad, n, v, hW⟩ := d j hj
    exact ⟨ad, n, v, zr_keep hW fun b h1 h2 => hk b (by omega) (by omega)⟩
  · obtain ⟨w, hw⟩ := k j hj
    exact ⟨w, by rw [hk _ (by omega) (by omega)]; exact hw⟩
theorem zk_Xk {t : Nat × (Nat → Int32)} (hx : zk_X h t) (hk : ∀ b, 91 ≤ b → b < 104 → zm_g h' b = zm_g h b) : zk_X h' t := by
  obtain ⟨a1, a2, ⟨a, b, c, d, a3⟩, ⟨g, a4, a5⟩, ⟨a', b', c', d', a6⟩, ⟨P, a7⟩⟩ := hx
  exact ⟨a1, a2, ⟨a, b, c, d, by rw [hk 92 (by omega) (by omega)]; exact a3⟩, ⟨g, by rw [hk 93 (by omega) (by omega)]; exact a4, a5⟩, ⟨a', b', c', d', by rw [hk 91 (by omega) (by omega)]; exact a6⟩, ⟨P, zV_keep a7 fun b h1 h2 => hk b (by omega) (by omega)⟩⟩
theorem zk_Ek {s : Nat × (Nat → Int32) × (Nat → Int32)} (hx : zk_E h s) (hk : ∀ b, 104 ≤ b → b < 106 → zm_g h' b = zm_g h b) : zk_E h' s := by
  obtain ⟨a1, ⟨g, a2, a3⟩, ⟨g2, a4, a5⟩, a6⟩ := hx
  exact ⟨a1, ⟨g, by rw [hk 104 (by omega) (by omega)]; exact a2, a3⟩, ⟨g2, by rw [hk 105 (by omega) (by omega)]; exact a4, a5⟩, a6⟩
theorem zk_Ik {I : (Nat → Int32) × (Nat → zp_T)} (hx : zk_I h I) (hk : ∀ b, 106 ≤ b → b < 128 → zm_g h' b = zm_g h b) : zk_I h' I := by
  obtain ⟨⟨g, a1, a2⟩, ⟨g2, a3, a4⟩, a5, a6, a7⟩ := hx
  exact ⟨⟨g, by rw [hk 106 (by omega) (by omega)]; exact a1, a2⟩, ⟨g2, by rw [hk 127 (by omega) (by omega)]; exact a3, a4⟩, a5, fun j hj => zV_keep (a6 j hj) fun b h1 h2 => hk b (by omega) (by omega), a7⟩
theorem zk_Hk {S : Nat → Int32 × Nat × (Nat → Int32)} (hx : zk_H h S) (hk : ∀ b, 128 ≤ b → b < 137 → zm_g h' b = zm_g h b) : zk_H h' S := by
  obtain ⟨⟨g, a1, a2⟩, a3, a4, a5⟩ := hx
  refine ⟨⟨g, by rw [hk 128 (by omega) (by omega)]; exact a1, a2⟩, fun j hj => by rw [hk _ (by omega) (by omega)]; exact a3 j hj, fun j hj => ?_, a5⟩
  obtain ⟨g', b1, b2⟩ := a4 j hj
  exact ⟨g', by rw [hk _ (by omega) (by omega)]; exact b1, b2⟩
variable {Y : zy_T}
theorem zk_keep (hK : zk_K h Y) (hk : ∀ b, b < 137 → zm_g h' b = zm_g h b) : zk_K h' Y := by
  obtain ⟨a1, ⟨a2, a3, a4⟩, a5, a6, a7, a8, a9⟩ := hK
  exact ⟨by rw [hk 0 (by omega)]; exact a1, ⟨zV_keep a2 fun b h1 h2 => hk b (by omega), a3, a4⟩, zk_Zk a5 fun b h1 h2 => hk b (by omega), zk_Xk a6 fun b h1 h2 => hk b (by omega), zk_Ek a7 fun b h1 h2 => hk b (by omega), zk_Ik a8 fun b h1 h2 => hk b (by omega), zk_Hk a9 fun b h1 h2 => hk b (by omega)⟩
/-- only the scratch changed -/
theorem zk_scr (hK : zk_K h Y) (hz : zk_Z h') (hF : zm_Fr h h' 11 91) : zk_K h' Y := by
  obtain ⟨a1, ⟨a2, a3, a4⟩, a5, a6, a7, a8, a9⟩ := hK
  exact ⟨by rw [hF.2.2 0 (by omega)]; exact a1, ⟨zV_keep a2 fun b h1 h2 => hF.2.2 b (by omega), a3, a4⟩, hz, zk_Xk a6 fun b h1 h2 => hF.2.2 b (by omega), zk_Ek a7 fun b h1 h2 => hF.2.2 b (by omega), zk_Ik a8 fun b h1 h2 => hF.2.2 b (by omega), zk_Hk a9 fun b h1 h2 => hF.2.2 b (by omega)⟩
/-- the province became another -/
theorem zk_now {P : zp_T} (hK : zk_K h Y) (hV : zp_V h' 1 P) (ho : zp_ok P) (hd : P.2.2.2.2 < 1000) (hF : zm_Fr h h' 1 11) : zk_K h' (P, Y.2) := by
  obtain ⟨a1, ⟨a2, a3, a4⟩, a5, a6, a7, a8, a9⟩ := hK
  exact ⟨by rw [hF.2.2 0 (by omega)]; exact a1, ⟨hV, ho, hd⟩, zk_Zk a5 fun b h1 h2 => hF.2.2 b (by omega), zk_Xk a6 fun b h1 h2 => hF.2.2 b (by omega), zk_Ek a7 fun b h1 h2 => hF.2.2 b (by omega), zk_Ik a8 fun b h1 h2 => hF.2.2 b (by omega), zk_Hk a9 fun b h1 h2 => hF.2.2 b (by omega)⟩
/-- the trial is worked on -/
theorem zk_Zt {P : zp_T} (hz : zk_Z h) (hV : zp_V h' 11 P) (hF : zm_Fr h h' 11 21) : zk_Z h' := by
  obtain ⟨-, ⟨f, b⟩, ⟨g, c1, c2⟩, d, ⟨g2, e1, e2⟩, k⟩ := hz
  refine ⟨⟨P, hV⟩, ⟨f, by rw [hF.2.2 21 (by omega)]; exact b⟩, ⟨g, by rw [hF.2.2 22 (by omega)]; exact c1, c2⟩, fun j hj => ?_, ⟨g2, by rw [hF.2.2 86 (by omega)]; exact e1, e2⟩, fun j hj => ?_⟩
  · obtain ⟨ad, n, v, hW⟩ := d j hj
    exact ⟨ad, n, v, zr_keep hW fun b h1 h2 => hF.2.2 b (by omega)⟩
  · obtain ⟨w, hw⟩ := k j hj
    exact ⟨w, by rw [hF.2.2 _ (by omega)]; exact hw⟩
theorem zo_keep (hK : zo_K h Y) (hk : ∀ b, 137 ≤ b → b < 150 → zm_g h' b = zm_g h b) : zo_K h' Y := by
  obtain ⟨A, g, a1, a2, a3, ⟨r1, a4⟩, ⟨r2, a5, b5⟩, ⟨r3, a6, b6⟩, ⟨r4, a7, b7⟩, ⟨r5, a8⟩, ⟨r6, a9, b9⟩, ⟨r7, a10⟩, ⟨r8, a11, b11⟩, a12, ⟨r9, a13, b13⟩, ⟨r10, a14, b14⟩, ⟨r11, a15, b15⟩⟩ := hK
  exact ⟨A, g, ⟨by rw [hk 137 (by omega) (by omega)]; exact a1.1, by rw [hk (137 + 1) (by omega) (by omega)]; exact a1.2⟩, a2, a3, ⟨r1, by rw [hk 139 (by omega) (by omega)]; exact a4⟩, ⟨r2, by rw [hk 140 (by omega) (by omega)]; exact a5, b5⟩, ⟨r3, by rw [hk 141 (by omega) (by omega)]; exact a6, b6⟩, ⟨r4, by rw [hk 142 (by omega) (by omega)]; exact a7, b7⟩, ⟨r5, by rw [hk 143 (by omega) (by omega)]; exact a8⟩, ⟨r6, by rw [hk 144 (by omega) (by omega)]; exact a9, b9⟩, ⟨r7, by rw [hk 145 (by omega) (by omega)]; exact a10⟩, ⟨r8, by rw [hk 146 (by omega) (by omega)]; exact a11, b11⟩, a12, ⟨r9, by rw [hk 147 (by omega) (by omega)]; exact a13, b13⟩, ⟨r10, by rw [hk 148 (by omega) (by omega)]; exact a14, b14⟩, ⟨r11, by rw [hk 149 (by omega) (by omega)]; exact a15, b15⟩⟩
/-- the reference's cell, its pages and its reigns changed, by what daysGo and copies may change: page 0 and those kept stand -/
theorem zo_scr (hK : zo_K h Y) {A g A' g' : Nat → Int32} (hM : zo_M h 137 A g) (hM' : zo_M h' 137 A' g') (hA : ∀ c, c ≠ 14 → c ≠ 15 → c ≠ 16 → A' c = A c) (hg : ∀ q, q < 93 → g' q = g q) (hr : ∃ r, zm_g h' 143 = .inl (0, 5, .inl r)) (hn : Y.1.1 ≤ 5) (hi : ∀ j, j < 2 → Y.2.2.2.2.1.1 j = 1 → (Y.2.2.2.2.1.2 j).1 ≤ 5) (hk : ∀ b, 139 ≤ b → b < 150 → b ≠ 143 → zm_g h' b = zm_g h b) : zo_K h' Y := by
  obtain ⟨A0, g0, a1, a2, a3, ⟨r1, a4⟩, ⟨r2, a5, b5⟩, ⟨r3, a6, b6⟩, ⟨r4, a7, b7⟩, ⟨r5, a8⟩, ⟨r6, a9, b9⟩, ⟨r7, a10⟩, ⟨r8, a11, b11⟩, a12, ⟨r9, a13, b13⟩, ⟨r10, a14, b14⟩, ⟨r11, a15, b15⟩⟩ := hK
  have eg : g0 = g := by
    have := a1.2.symm.trans hM.2
    simp only [Sum.inl.injEq, Prod.mk.injEq, true_and] at this
    exact this
  subst eg
  have eA : A0 4 = A 4 ∧ A0 5 = A 5 ∧ A0 19 = A 19 ∧ A0 25 = A 25 := by
    have := a1.1.symm.trans hM.1
    simp only [zo_c, Sum.inr.injEq, Prod.mk.injEq, List.cons.injEq, Value.int.injEq, true_and] at this
    obtain ⟨-, t4, t5, -, -, -, -, -, -, -, -, -, t19, t25, -⟩ := this
    exact ⟨t4, t5, t19, t25⟩
  exact ⟨A', g', hM', zs_Pk a2 hn fun q h1 h2 => hg q (by omega), ⟨by rw [hA 4 (by decide) (by decide) (by decide), ← eA.1]; exact a3.1, by rw [hA 5 (by decide) (by decide) (by decide), ← eA.2.1]; exact a3.2.1, by rw [hA 19 (by decide) (by decide) (by decide), ← eA.2.2.1]; exact a3.2.2.1, by rw [hA 25 (by decide) (by decide) (by decide), ← eA.2.2.2]; exact a3.2.2.2⟩, ⟨r1, by rw [hk 139 (by omega) (by omega) (by omega)]; exact a4⟩, ⟨r2, by rw [hk 140 (by omega) (by omega) (by omega)]; exact a5, b5⟩, ⟨r3, by rw [hk 141 (by omega) (by omega) (by omega)]; exact a6, b6⟩, ⟨r4, by rw [hk 142 (by omega) (by omega) (by omega)]; exact a7, b7⟩, hr, ⟨r6, by rw [hk 144 (by omega) (by omega) (by omega)]; exact a9, b9⟩, ⟨r7, by rw [hk 145 (by omega) (by omega) (by omega)]; exact a10⟩, ⟨r8, by rw [hk 146 (by omega) (by omega) (by omega)]; exact a11, b11⟩, fun j hj hj1 => zs_Pk (a12 j hj hj1) (hi j hj hj1) fun q h1 h2 => hg q (by omega), ⟨r9, by rw [hk 147 (by omega) (by omega) (by omega)]; exact a13, b13⟩, ⟨r10, by rw [hk 148 (by omega) (by omega) (by omega)]; exact a14, b14⟩, ⟨r11, by rw [hk 149 (by omega) (by omega) (by omega)]; exact a15, b15⟩⟩
end ZPIC
