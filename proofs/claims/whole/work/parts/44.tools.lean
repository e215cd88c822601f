section ZT44
variable {h h' : zm_H} {Y Y' : zy_T} {F k R : Int32} {m : Nat} {A : Nat → Int32}
theorem zkr8 {f : Nat → zm_O} : zq_gr (.inr (6, zk_c F k R)) 6 7 f = f 104 := rfl
theorem zkr9 {f : Nat → zm_O} : zq_gr (.inr (6, zk_c F k R)) 6 8 f = f 105 := rfl
theorem zkr11 {f : Nat → zm_O} : zq_gr (.inr (6, zk_c F k R)) 6 10 f = f 106 := rfl
theorem zkr12 {f : Nat → zm_O} : zq_gr (.inr (6, zk_c F k R)) 6 11 f = f 127 := rfl
theorem zkr13 {f : Nat → zm_O} : zq_gr (.inr (6, zk_c F k R)) 6 12 f = f 128 := rfl
theorem zkp7 {x : Int32} {f : va_E → zm_O} : zq_pi (.inr (6, zk_c F k R)) 6 6 x f = f (.inr (6, zk_c x k R)) := rfl
theorem zkp10 {x : Int32} {f : va_E → zm_O} : zq_pi (.inr (6, zk_c F k R)) 6 9 x f = f (.inr (6, zk_c F x R)) := rfl
theorem zkp14 {x : Int32} {f : va_E → zm_O} : zq_pi (.inr (6, zk_c F k R)) 6 13 x f = f (.inr (6, zk_c F k x)) := rfl
theorem zor1 {f : Nat → zm_O} : zq_gr (.inr (7, zo_c m A)) 7 1 f = f (m + 2) := rfl
theorem zor3 {f : Nat → zm_O} : zq_gr (.inr (7, zo_c m A)) 7 3 f = f (m + 3) := rfl
theorem zor12 {f : Nat → zm_O} : zq_gr (.inr (7, zo_c m A)) 7 12 f = f (m + 4) := rfl
theorem zor13 {f : Nat → zm_O} : zq_gr (.inr (7, zo_c m A)) 7 13 f = f (m + 5) := rfl
theorem zor18 {f : Nat → zm_O} : zq_gr (.inr (7, zo_c m A)) 7 18 f = f (m + 7) := rfl
theorem zor20 {f : Nat → zm_O} : zq_gr (.inr (7, zo_c m A)) 7 20 f = f (m + 8) := rfl
theorem zor21 {f : Nat → zm_O} : zq_gr (.inr (7, zo_c m A)) 7 21 f = f (m + 9) := rfl
theorem zor22 {f : Nat → zm_O} : zq_gr (.inr (7, zo_c m A)) 7 22 f = f (m + 10) := rfl
theorem zor23 {f : Nat → zm_O} : zq_gr (.inr (7, zo_c m A)) 7 23 f = f (m + 11) := rfl
theorem zor24 {f : Nat → zm_O} : zq_gr (.inr (7, zo_c m A)) 7 24 f = f (m + 12) := rfl
theorem zoi2 {f : Int32 → zm_O} : zq_gi (.inr (7, zo_c m A)) 7 2 f = f (A 2) := rfl
theorem zoi6 {f : Int32 → zm_O} : zq_gi (.inr (7, zo_c m A)) 7 6 f = f (A 6) := rfl
theorem zoi7 {f : Int32 → zm_O} : zq_gi (.inr (7, zo_c m A)) 7 7 f = f (A 7) := rfl
theorem zoi8 {f : Int32 → zm_O} : zq_gi (.inr (7, zo_c m A)) 7 8 f = f (A 8) := rfl
theorem zoi9 {f : Int32 → zm_O} : zq_gi (.inr (7, zo_c m A)) 7 9 f = f (A 9) := rfl
theorem zoi10 {f : Int32 → zm_O} : zq_gi (.inr (7, zo_c m A)) 7 10 f = f (A 10) := rfl
theorem zoi11 {f : Int32 → zm_O} : zq_gi (.inr (7, zo_c m A)) 7 11 f = f (A 11) := rfl
theorem zop2 {x : Int32} {f : va_E → zm_O} : zq_pi (.inr (7, zo_c m A)) 7 2 x f = f (.inr (7, zo_c m (upd A 2 x))) := rfl
theorem zop4 {x : Int32} {f : va_E → zm_O} : zq_pi (.inr (7, zo_c m A)) 7 4 x f = f (.inr (7, zo_c m (upd A 4 x))) := rfl
theorem zop5 {x : Int32} {f : va_E → zm_O} : zq_pi (.inr (7, zo_c m A)) 7 5 x f = f (.inr (7, zo_c m (upd A 5 x))) := rfl
theorem zop6 {x : Int32} {f : va_E → zm_O} : zq_pi (.inr (7, zo_c m A)) 7 6 x f = f (.inr (7, zo_c m (upd A 6 x))) := rfl
theorem zop7 {x : Int32} {f : va_E → zm_O} : zq_pi (.inr (7, zo_c m A)) 7 7 x f = f (.inr (7, zo_c m (upd A 7 x))) := rfl
theorem zop8 {x : Int32} {f : va_E → zm_O} : zq_pi (.inr (7, zo_c m A)) 7 8 x f = f (.inr (7, zo_c m (upd A 8 x))) := rfl
theorem zop9 {x : Int32} {f : va_E → zm_O} : zq_pi (.inr (7, zo_c m A)) 7 9 x f = f (.inr (7, zo_c m (upd A 9 x))) := rfl
theorem zop10 {x : Int32} {f : va_E → zm_O} : zq_pi (.inr (7, zo_c m A)) 7 10 x f = f (.inr (7, zo_c m (upd A 10 x))) := rfl
theorem zop11 {x : Int32} {f : va_E → zm_O} : zq_pi (.inr (7, zo_c m A)) 7 11 x f = f (.inr (7, zo_c m (upd A 11 x))) := rfl
theorem zop19 {x : Int32} {f : va_E → zm_O} : zq_pi (.inr (7, zo_c m A)) 7 19 x f = f (.inr (7, zo_c m (upd A 19 x))) := rfl
theorem zop25 {x : Int32} {f : va_E → zm_O} : zq_pi (.inr (7, zo_c m A)) 7 25 x f = f (.inr (7, zo_c m (upd A 25 x))) := rfl
theorem zt_mk {M1 M2 : Nat} {as : List Value} {r : Int32} {h1 : zm_H} (hO : zo_K h Y) (e1 : zm_call M1 (.ref 0 :: as) h = some (some (.int r), h1)) (K1 : zk_K h1 Y') (F1 : zm_Fr h h1 0 137) (R : zo_K h1 Y → ∃ h2, zm_call M2 (.ref 137 :: as) h1 = some (some (.int r), h2) ∧ zo_K h2 Y' ∧ zm_Fr h1 h2 137 150) : zt_R M1 M2 as h := by
  obtain ⟨h2, a, b, c⟩ := R (zo_keep hO fun q q1 q2 => F1.2.2 q (by omega))
  exact ⟨h1, h2, r, Y', e1, a, zk_keep K1 fun b hb => c.2.2 b (by omega), b, zFr_12 F1 c⟩
/-- the same for an answer that is a long -/
def zt_L (M1 M2 : Nat) (as : List Value) (h : zm_H) : Prop := ∃ h1 h2 r Y', zm_call M1 (.ref 0 :: as) h = some (some (.long r), h1) ∧ zm_call M2 (.ref 137 :: as) h1 = some (some (.long r), h2) ∧ zk_K h2 Y' ∧ zo_K h2 Y' ∧ zm_Fr h h2 0 150 ∧ zm_Fr h h1 0 137
theorem zt_mkL {M1 M2 : Nat} {as : List Value} {r : Int64} {h1 : zm_H} (hO : zo_K h Y) (e1 : zm_call M1 (.ref 0 :: as) h = some (some (.long r), h1)) (K1 : zk_K h1 Y') (F1 : zm_Fr h h1 0 137) (R : zo_K h1 Y → ∃ h2, zm_call M2 (.ref 137 :: as) h1 = some (some (.long r), h2) ∧ zo_K h2 Y' ∧ zm_Fr h1 h2 137 150) : zt_L M1 M2 as h := by
  obtain ⟨h2, a, b, c⟩ := R (zo_keep hO fun q q1 q2 => F1.2.2 q (by omega))
  exact ⟨h1, h2, r, Y', e1, a, zk_keep K1 fun b hb => c.2.2 b (by omega), b, zFr_12 F1 c⟩
theorem zt_roL {M1 M2 : Nat} {as : List Value} {r : Int64} (hK : zk_K h Y) (hO : zo_K h Y) (e1 : zm_call M1 (.ref 0 :: as) h = some (some (.long r), h)) (e2 : zm_call M2 (.ref 137 :: as) h = some (some (.long r), h)) : zt_L M1 M2 as h := ⟨h, h, r, Y, e1, e2, hK, hO, zFr_rf _ _ _, zFr_rf _ _ _⟩
theorem zx_k {α : Type} {b : Nat} {c : α → va_E} {Q : α → Prop} (e : zm_g h' b = zm_g h b) (a : ∃ r, zm_g h b = c r ∧ Q r) : ∃ r, zm_g h' b = c r ∧ Q r := by
  obtain ⟨r, a1, a2⟩ := a
  exact ⟨r, e.trans a1, a2⟩
theorem zx_k1 {α : Type} {b : Nat} {c : α → va_E} (e : zm_g h' b = zm_g h b) (a : ∃ r, zm_g h b = c r) : ∃ r, zm_g h' b = c r := by
  obtain ⟨r, a1⟩ := a
  exact ⟨r, e.trans a1⟩
theorem zo_gu {A0 g0 g : Nat → Int32} (a : zo_M h 137 A0 g0) (b : zo_M h 137 A g) : g0 = g ∧ A0 4 = A 4 ∧ A0 5 = A 5 ∧ A0 19 = A 19 ∧ A0 25 = A 25 := by
  refine ⟨?_, ?_⟩
  · have := a.2.symm.trans b.2
    simp only [Sum.inl.injEq, Prod.mk.injEq, true_and] at this
    exact this
  · have := a.1.symm.trans b.1
    simp only [zo_c, Sum.inr.injEq, Prod.mk.injEq, List.cons.injEq, Value.int.injEq, true_and] at this
    obtain ⟨-, t4, t5, -, -, -, -, -, -, -, -, -, t19, t25, -⟩ := this
    exact ⟨t4, t5, t19, t25⟩
def zp_sf (P : zp_T) (i : Nat) (f : zf_T) : zp_T := (P.1, (fun j => if j = i then f else P.2.1 j), P.2.2)
theorem zv_sf {P Q : zp_T} {i : Nat} {f : zf_T} (e : zp_eqv P Q) : zp_eqv (zp_sf P i f) (zp_sf Q i f) := by
  refine ⟨e.1, fun j hj => ?_, e.2.2⟩
  show (if j = i then f else P.2.1 j) = (if j = i then f else Q.2.1 j)
  by_cases z : j = i
  · rw [if_pos z, if_pos z]
  · rw [if_neg z, if_neg z]
    exact e.2.1 j hj
theorem zp_ok_sf {P : zp_T} {i : Nat} {f : zf_T} (ho : zp_ok P) (hf : zf_ok f) : zp_ok (zp_sf P i f) := by
  refine ⟨ho.1, fun j hj => ?_, ho.2.2⟩
  show zf_ok (if j = i then f else P.2.1 j)
  by_cases z : j = i
  · rw [if_pos z]
    exact hf
  · rw [if_neg z]
    exact ho.2.1 j hj
theorem zV_sf {p i : Nat} {P : zp_T} (hV : zp_V h p P) (hi : i < P.1) : ∃ g a, zm_g h (p + 2) = .inl (3, 5, .inr (.inr (.inr (.inr g)))) ∧ g i = some a ∧ zm_g h a = zf_c (P.2.1 i) ∧ p + 3 ≤ a ∧ a < p + 8 ∧ ∀ h' : zm_H, (∀ b, p ≤ b → b < p + 10 → b ≠ a → zm_g h' b = zm_g h b) → ∀ f, zm_g h' a = zf_c f → zp_V h' p (zp_sf P i f) := by
  obtain ⟨ad, Q, h1, h2⟩ := hV
  obtain ⟨d1, d2, c0, d3, d4⟩ := id h1
  obtain ⟨c1, c2, ⟨g, c3, c4⟩, c5, c6, c7⟩ := id c0
  have hn : P.1 ≤ 5 := by rw [← h2.1]; exact c1
  have hb := c6 i (by omega)
  refine ⟨g, ad i, c3, c4 i (by omega), ?_, by omega, by omega, fun h' hk f hf => ⟨ad, zp_sf Q i f, ?_, zv_sf h2⟩⟩
  · rw [c5 i (by omega), h2.2.1 i (by rw [h2.1]; exact hi)]
  · have W1 : zp_W (zm_s h (ad i) (zf_c f)) p ad (zp_sf Q i f) := ⟨d1, by rw [zg_sn (by omega)]; exact d2, zr_set c0 (show i < 5 by omega) f, za_keep d3 (zg_sn (by omega)), za_keep d4 (zg_sn (by omega))⟩
    refine zp_keep W1 fun b b1 b2 => ?_
    by_cases e : b = ad i
    · subst e
      rw [hf, zg_ss]
    · rw [hk b b1 b2 e, zg_sn e]
theorem zs_Psf {g g' : Nat → Int32} {p i : Nat} {P : zp_T} {f : zf_T} (hP : zs_P g p P) (hn : P.1 ≤ 5) (hg : ∀ q, p ≤ q → q < p + 31 → q ≠ p + i → q ≠ p + 5 + i → q ≠ p + 10 + i → g' q = g q) (hi : i < P.1) (h1 : g' (p + i) = f.1) (h2 : g' (p + 5 + i) = f.2.1) (h3 : g' (p + 10 + i) = f.2.2 - 20) : zs_P g' p (zp_sf P i f) := by
  refine ⟨by rw [hg _ (by omega) (by omega) (by omega) (by omega) (by omega)]; exact hP.1, fun j hj => ?_, fun d hd => ?_, by rw [hg _ (by omega) (by omega) (by omega) (by omega) (by omega)]; exact hP.2.2.2⟩
  · have hj' : j < P.1 := hj
    show _ = (if j = i then f else P.2.1 j).1 ∧ _ = (if j = i then f else P.2.1 j).2.1 ∧ _ = (if j = i then f else P.2.1 j).2.2 - 20
    by_cases e : j = i
    · subst e
      rw [if_pos rfl]
      exact ⟨h1, h2, h3⟩
    · rw [if_neg e, hg _ (by omega) (by omega) (by omega) (by omega) (by omega), hg _ (by omega) (by omega) (by omega) (by omega) (by omega), hg _ (by omega) (by omega) (by omega) (by omega) (by omega)]
      exact hP.2.1 j hj'
  · rw [hg _ (by omega) (by omega) (by omega) (by omega) (by omega), hg _ (by omega) (by omega) (by omega) (by omega) (by omega)]
    exact hP.2.2.1 d hd
theorem zq_tl_o {j : Nat} {f : Int32 → zm_O} (hj : j < 3) : zq_tl (nI j) f = f (zm_most j) := by
  unfold zq_tl
  rw [if_pos (zm_vin_n hj (by decide)), nI_clamp (by omega)]
/-- the class's province became another, by what was written within 1 .. 10; the reference's page 0 likewise -/
theorem zt_now {M1 M2 : Nat} {as : List Value} {r : Int32} {h1 : zm_H} {P : zp_T} (hK : zk_K h Y) (hO : zo_K h Y) (e1 : zm_call M1 (.ref 0 :: as) h = some (some (.int r), h1)) (V : zp_V h1 1 P) (ho : zp_ok P) (hd : P.2.2.2.2 < 1000) (F1 : zm_Fr h h1 1 11) (Rf : ∀ A g, zo_M h1 137 A g → zs_P g 0 Y.1 → ∃ h2 g', zm_call M2 (.ref 137 :: as) h1 = some (some (.int r), h2) ∧ zo_M h2 137 A g' ∧ zs_P g' 0 P ∧ (∀ q, 31 ≤ q → q < 93 → g' q = g q) ∧ zm_Fr h1 h2 138 139) : zt_R M1 M2 as h := by
  refine zt_mk hO e1 (zk_now hK V ho hd F1) (zFr_mn F1 (by omega) (by omega)) fun O1 => ?_
  obtain ⟨A, g, a1, a2, -⟩ := id O1
  obtain ⟨h2, g', b1, b2, b3, b4, b5⟩ := Rf A g a1 a2
  exact ⟨h2, b1, zo_now hK.2.2.2.2.2.1 O1 a1 b2 b3 b4 b5, zFr_mn b5 (by omega) (by omega)⟩
end ZT44
