section ZT71
variable {h h0 : zm_H} {Y : zy_T} {A0 g0 A g : Nat → Int32} {P Q : zp_T} {s : zs_T} {sa : Nat → Int32} {i : Nat}
theorem zp_sf_sf {f f' : zf_T} : zp_sf (zp_sf P i f) i f' = zp_sf P i f' := by
  unfold zp_sf
  congr 1
  congr 1
  funext j
  show (if j = i then f' else if j = i then f else P.2.1 j) = (if j = i then f' else P.2.1 j)
  by_cases z : j = i
  · rw [if_pos z, if_pos z]
  · rw [if_neg z, if_neg z, if_neg z]
theorem zp_sf_self : zp_sf P i (P.2.1 i) = P := by
  unfold zp_sf
  refine Prod.ext rfl (Prod.ext ?_ rfl)
  funext j
  show (if j = i then P.2.1 i else P.2.1 j) = P.2.1 j
  by_cases z : j = i
  · rw [if_pos z, z]
  · rw [if_neg z]
theorem zx_or0 (a : Int32) : a ||| 0 = a := Int32.or_zero
theorem qm_kinds_l (hi : i < P.1) (hA : A0 19 = nI s.1) (hm : s.1 ≤ 6) (h144 : zm_g h0 144 = .inl (0, 12, .inl sa)) (hs : ∀ j, j < s.1 → sa (2 * j) = s.2.1 j ∧ sa (2 * j + 1) = zx_sd (s.2.2 j)) (ho : zp_ok P) (hd : P.2.2.2.2 < 1000) : ∀ (k v : Nat) (a : Int32) (h : zm_H) (g dd : Nat → Int32) (f : zf_T), v + k = 4 → f.1 = f.1 → zo_J h0 h A0 g0 A g → zs_P g 0 (zp_sf P i f) → zm_g h 145 = .inl (0, 124, .inl dd) → (∀ a, a < v → ∀ t, t < 31 → dd (31 * a + t) = zp_dec (zp_run t (zp_sf P i (zf_put (P.2.1 i) (nI 0) (nI a))))) → zf_put f (nI 0) (P.2.1 i).1 = P.2.1 i → ∃ h' g', zm_den 5 184 12 [.ref 137, .int (nI i), .int (P.2.1 i).1, .int a, .int (nI v)] [] h = some (some (.int (zp_fb s i 0 P k v a)), h') ∧ zo_J h0 h' A0 g0 A g' ∧ zs_P g' 0 P ∧ ∃ dd', zm_g h' 145 = .inl (0, 124, .inl dd') ∧ ∀ a, a < 4 → ∀ t, t < 31 → dd' (31 * a + t) = zp_dec (zp_run t (zp_sf P i (zf_put (P.2.1 i) (nI 0) (nI a)))) := by
  have i5 := ho.1
  have sI : ∀ (g : Nat → Int32) (x : Int32) (o : va_E → zm_O), zq_as (.inl (0, 186, .inl g)) 0 (nI i) x o = o (.inl (0, 186, .inl (upd g (0 + i) x))) := fun g x o => by
    rw [show nI i = nI (0 + i) from by rw [Nat.zero_add]]
    exact zq_as_o (by omega) (by decide)
  intro k
  induction k with
  | zero =>
    intro v a h g dd f hv _ J hP hdd hdq hf
    have J2 := zo_Js (g2 := upd g (0 + i) (P.2.1 i).1) J fun q _ _ => pk_un (by omega)
    refine ⟨_, _, ?_, J2, ?_, dd, by rw [zg_sn (by omega)]; exact hdd, fun a ha => hdq a (by omega)⟩
    · rw [zb184_12, if_pos (show (4 : Int32) ≤ nI v from nI_le (a := 4) (b := v) (by omega) (by omega)), zm_nx, zb184_52]
      simp only [J.1.1, zor0, J.1.2, sI]
      rfl
    · have hi' : i < (zp_sf P i f).1 := hi
      have ff : (zp_sf P i f).2.1 i = f := if_pos rfl
      have src := hP.2.1 i hi'
      rw [ff] at src
      have r : zs_P (upd g (0 + i) (P.2.1 i).1) 0 (zp_sf (zp_sf P i f) i (zf_put f (nI 0) (P.2.1 i).1)) := by
        refine zs_Psf hP i5 (fun q _ _ _ _ _ => pk_un (by omega)) hi' ?_ ?_ ?_
        · rw [pk_us]; rfl
        · rw [pk_un (by omega)]; exact src.2.1
        · rw [pk_un (by omega)]; exact src.2.2
      rw [hf, zp_sf_sf, zp_sf_self] at r
      exact r
  | succ k ih =>
    intro v a h g dd f hv _ J hP hdd hdq hf
    have J2 := zo_Js (g2 := upd g (0 + i) (nI v)) J fun q _ _ => pk_un (by omega)
    have hi' : i < (zp_sf P i f).1 := hi
    have ff : (zp_sf P i f).2.1 i = f := if_pos rfl
    have src := hP.2.1 i hi'
    rw [ff] at src
    have e0 : zf_put (P.2.1 i) (nI 0) (nI v) = zf_put f (nI 0) (nI v) := by rw [← hf]; rfl
    have P2 : zs_P (upd g (0 + i) (nI v)) 0 (zp_sf P i (zf_put (P.2.1 i) (nI 0) (nI v))) := by
      have r : zs_P (upd g (0 + i) (nI v)) 0 (zp_sf (zp_sf P i f) i (zf_put f (nI 0) (nI v))) := by
        refine zs_Psf hP i5 (fun q _ _ _ _ _ => pk_un (by omega)) hi' ?_ ?_ ?_
        · rw [pk_us]; rfl
        · rw [pk_un (by omega)]; exact src.2.1
        · rw [pk_un (by omega)]; exact src.2.2
      rw [zp_sf_sf] at r
      rw [e0]
      exact r
    have ho2 : zp_ok (zp_sf P i (zf_put (P.2.1 i) (nI 0) (nI v))) := zp_ok_sf ho (zf_put_ok (ho.2.1 i hi) (by decide) (by show v ≤ 3; omega))
    obtain ⟨h3, g3, dd3, e1, e2, e3, e4, e5, e6⟩ := qm_asn (row := v) (by omega) hA hm h144 hs ho2 hd J2 P2 ((zg_sn (by omega)).trans hdd)
    have e1' : zm_call 183 [.ref 137, .int (nI v)] (zm_s h (137 + 1) (.inl (0, 186, .inl (upd g (0 + i) (nI v))))) = some (some (.int (zx_b (zp_fit s 31 0 (zp_sf P i (zf_put (P.2.1 i) (nI 0) (nI v)))))), h3) := e1
    have P3 : zs_P g3 0 (zp_sf P i (zf_put (P.2.1 i) (nI 0) (nI v))) := zs_Pk P2 i5 fun q _ _ => e6 q (by omega)
    have IH := fun a' => ih (v + 1) a' h3 g3 dd3 (zf_put (P.2.1 i) (nI 0) (nI v)) (by omega) rfl e2 P3 e3 (fun a ha t ht => by
        by_cases z : a = v
        · subst z
          rw [e4 t ht]
        · rw [e5 _ (by omega)]
          exact hdq a (by omega) t ht) (by rfl)
    unfold zp_fb
    obtain ⟨b, hb⟩ : ∃ b, b = zp_fit s 31 0 (zp_sf P i (zf_put (P.2.1 i) (nI 0) (nI v))) := ⟨_, rfl⟩
    rw [← hb] at e1' ⊢
    rw [zb184_12, if_neg (show ¬ (4 : Int32) ≤ nI v from nI_ge (a := v) (b := 4) (by omega) (by decide)), zm_nx, zb184_18]
    simp only [J.1.1, zor0, J.1.2, sI, J2.1.1, zq_rc_o, e1', zq_bi_o, zm_nx]
    cases b with
    | false =>
      obtain ⟨h', g', d1, d2, d3, d4⟩ := IH a
      refine ⟨h', g', ?_, d2, d3, d4⟩
      rw [if_pos (by decide), zb184_43, zm_nx, zb184_44, zm_nx, nI_1, zx_or0, if_neg (by decide)]
      exact d1
    | true =>
      obtain ⟨h', g', d1, d2, d3, d4⟩ := IH (a ||| ((1 : Int32) <<< (nI v &&& 31)))
      refine ⟨h', g', ?_, d2, d3, d4⟩
      rw [if_neg (by decide), zb184_36, zm_nx, zb184_44, zm_nx, nI_1, if_pos rfl]
      exact d1
theorem qm_sizes_l (hi : i < P.1) (hA : A0 19 = nI s.1) (hm : s.1 ≤ 6) (h144 : zm_g h0 144 = .inl (0, 12, .inl sa)) (hs : ∀ j, j < s.1 → sa (2 * j) = s.2.1 j ∧ sa (2 * j + 1) = zx_sd (s.2.2 j)) (ho : zp_ok P) (hd : P.2.2.2.2 < 1000) : ∀ (k v : Nat) (a : Int32) (h : zm_H) (g dd : Nat → Int32) (f : zf_T), v + k = 31 → f.1 = f.1 → zo_J h0 h A0 g0 A g → zs_P g 0 (zp_sf P i f) → zm_g h 145 = .inl (0, 124, .inl dd) → zf_put f (nI 1) (P.2.1 i).2.1 = P.2.1 i → ∃ h' g', zm_den 5 186 24 [.ref 137, .int (nI i), .int (P.2.1 i).2.1, .int a, .int (nI v)] [] h = some (some (.int (zp_fb s i 1 P k v a)), h') ∧ zo_J h0 h' A0 g0 A g' ∧ zs_P g' 0 P := by
  have i5 := ho.1
  have sI : ∀ (g : Nat → Int32) (x : Int32) (o : va_E → zm_O), zq_as (.inl (0, 186, .inl g)) 0 ((5 : Int32) + nI i) x o = o (.inl (0, 186, .inl (upd g (0 + 5 + i) x))) := fun g x o => by
    rw [show (5 : Int32) + nI i = nI (0 + 5 + i) from by rw [Nat.zero_add]; exact nI_add 5 i]
    exact zq_as_o (by omega) (by decide)
  intro k
  induction k with
  | zero =>
    intro v a h g dd f hv _ J hP hdd hf
    have J2 := zo_Js (g2 := upd g (0 + 5 + i) (P.2.1 i).2.1) J fun q _ _ => pk_un (by omega)
    refine ⟨_, _, ?_, J2, ?_⟩
    · rw [zb186_24, if_pos (show (30 : Int32) < nI v from nI_lt (a := 30) (b := v) (by omega) (by omega)), zm_nx, zb186_66]
      simp only [J.1.1, zor0, J.1.2, sI]
      rfl
    · have hi' : i < (zp_sf P i f).1 := hi
      have ff : (zp_sf P i f).2.1 i = f := if_pos rfl
      have src := hP.2.1 i hi'
      rw [ff] at src
      have r : zs_P (upd g (0 + 5 + i) (P.2.1 i).2.1) 0 (zp_sf (zp_sf P i f) i (zf_put f (nI 1) (P.2.1 i).2.1)) := by
        refine zs_Psf hP i5 (fun q _ _ _ _ _ => pk_un (by omega)) hi' ?_ ?_ ?_
        · rw [pk_un (by omega)]; exact src.1
        · rw [pk_us]; rfl
        · rw [pk_un (by omega)]; exact src.2.2
      rw [hf, zp_sf_sf, zp_sf_self] at r
      exact r
  | succ k ih =>
    intro v a h g dd f hv _ J hP hdd hf
    have J2 := zo_Js (g2 := upd g (0 + 5 + i) (nI v)) J fun q _ _ => pk_un (by omega)
    have hi' : i < (zp_sf P i f).1 := hi
    have ff : (zp_sf P i f).2.1 i = f := if_pos rfl
    have src := hP.2.1 i hi'
    rw [ff] at src
    have e0 : zf_put (P.2.1 i) (nI 1) (nI v) = zf_put f (nI 1) (nI v) := by rw [← hf]; rfl
    have P2 : zs_P (upd g (0 + 5 + i) (nI v)) 0 (zp_sf P i (zf_put (P.2.1 i) (nI 1) (nI v))) := by
      have r : zs_P (upd g (0 + 5 + i) (nI v)) 0 (zp_sf (zp_sf P i f) i (zf_put f (nI 1) (nI v))) := by
        refine zs_Psf hP i5 (fun q _ _ _ _ _ => pk_un (by omega)) hi' ?_ ?_ ?_
        · rw [pk_un (by omega)]; exact src.1
        · rw [pk_us]; rfl
        · rw [pk_un (by omega)]; exact src.2.2
      rw [zp_sf_sf] at r
      rw [e0]
      exact r
    have ho2 : zp_ok (zp_sf P i (zf_put (P.2.1 i) (nI 1) (nI v))) := zp_ok_sf ho (zf_put_ok (ho.2.1 i hi) (by decide) (by show v ≤ 99; omega))
    obtain ⟨h3, g3, dd3, e1, e2, e3, e4, e5, e6⟩ := qm_asn (row := 0) (by decide) hA hm h144 hs ho2 hd J2 P2 ((zg_sn (by omega)).trans hdd)
    have e1' : zm_call 183 [.ref 137, .int (0)] (zm_s h (137 + 1) (.inl (0, 186, .inl (upd g (0 + 5 + i) (nI v))))) = some (some (.int (zx_b (zp_fit s 31 0 (zp_sf P i (zf_put (P.2.1 i) (nI 1) (nI v)))))), h3) := e1
    have P3 : zs_P g3 0 (zp_sf P i (zf_put (P.2.1 i) (nI 1) (nI v))) := zs_Pk P2 i5 fun q _ _ => e6 q (by omega)
    have IH := fun a' => ih (v + 1) a' h3 g3 dd3 (zf_put (P.2.1 i) (nI 1) (nI v)) (by omega) rfl e2 P3 e3 (by rfl)
    unfold zp_fb
    obtain ⟨b, hb⟩ : ∃ b, b = zp_fit s 31 0 (zp_sf P i (zf_put (P.2.1 i) (nI 1) (nI v))) := ⟨_, rfl⟩
    rw [← hb] at e1' ⊢
    rw [zb186_24, if_neg (show ¬ (30 : Int32) < nI v from nI_nlt (a := 30) (b := v) (by omega) (by decide)), zm_nx, zb186_31]
    simp only [J.1.1, zor0, J.1.2, sI, J2.1.1, zq_rc_o, e1', zq_bi_o, zm_nx]
    cases b with
    | false =>
      obtain ⟨h', g', d1, d2, d3⟩ := IH a
      refine ⟨h', g', ?_, d2, d3⟩
      rw [if_pos (by decide), zb186_57, zm_nx, zb186_58, zm_nx, nI_1, zx_or0, if_neg (by decide)]
      exact d1
    | true =>
      obtain ⟨h', g', d1, d2, d3⟩ := IH (a ||| ((1 : Int32) <<< (nI v &&& 31)))
      refine ⟨h', g', ?_, d2, d3⟩
      rw [if_neg (by decide), zb186_50, zm_nx, zb186_58, zm_nx, nI_1, if_pos rfl]
      exact d1
theorem qm_kindsOf (hi : i < P.1) (hA : A0 19 = nI s.1) (hm : s.1 ≤ 6) (h144 : zm_g h0 144 = .inl (0, 12, .inl sa)) (hs : ∀ j, j < s.1 → sa (2 * j) = s.2.1 j ∧ sa (2 * j + 1) = zx_sd (s.2.2 j)) (ho : zp_ok P) (hd : P.2.2.2.2 < 1000) (J : zo_J h0 h A0 g0 A g) (hP : zs_P g 0 P) : ∃ h' g', zm_call 184 [.ref 137, .int (nI i)] h = some (some (.int (zp_fb s i 0 P 4 0 0)), h') ∧ zo_J h0 h' A0 g0 A g' ∧ zs_P g' 0 P ∧ ∃ dd', zm_g h' 145 = .inl (0, 124, .inl dd') ∧ ∀ a, a < 4 → ∀ t, t < 31 → dd' (31 * a + t) = zp_dec (zp_run t (zp_sf P i (zf_put (P.2.1 i) (nI 0) (nI a)))) := by
  have i5 := ho.1
  obtain ⟨dd, hdd⟩ := J.2.2.2.2.1
  obtain ⟨h', g', d1, d2, d3, d4⟩ := qm_kinds_l hi hA hm h144 hs ho hd 4 0 0 h g dd (P.2.1 i) (by omega) rfl J (by rw [zp_sf_self]; exact hP) hdd (fun a ha => absurd ha (by omega)) rfl
  refine ⟨h', g', ?_, d2, d3, d4⟩
  have l1 : ∀ o : Int32 → zm_O, zq_al (.inl (0, 186, .inl g)) 0 (nI i) o = o (P.2.1 i).1 := fun o => zy_al (j := 0 + i) (by rw [Nat.zero_add]) (by omega) (by decide) (hP.2.1 i hi).1
  rw [zc184, zm_nx, zb184_0]
  simp only [J.1.1, zor0, J.1.2, l1, zm_nx]
  exact d1
theorem zo_Js0 (hO : zo_K h Y) (hK : zk_K h0 Y) : ∃ A g sa, zo_J h h A g A g ∧ zs_P g 0 Y.1 ∧ A 19 = nI Y.2.2.2.1.1 ∧ Y.2.2.2.1.1 ≤ 6 ∧ zm_g h 144 = .inl (0, 12, .inl sa) ∧ ∀ j, j < Y.2.2.2.1.1 → sa (2 * j) = Y.2.2.2.1.2.1 j ∧ sa (2 * j + 1) = zx_sd (Y.2.2.2.1.2.2 j) := by
  obtain ⟨A, g, a1, a2, a3, a4, a5, a6, a7, a8, ⟨sa, a9, b9⟩, a10, -⟩ := hO
  exact ⟨A, g, sa, ⟨a1, fun _ _ _ _ => rfl, fun _ _ _ => rfl, a8, a10, rfl, rfl, fun _ _ _ _ _ => rfl⟩, a2, a3.2.2.1, hK.2.2.2.2.1.1, a9, b9⟩
theorem zt_kinds (x : Int32) (hK : zk_K h Y) (hO : zo_K h Y) : zt_R 93 185 [.int x] h := by
  have k0 := hK.1
  obtain ⟨kV, kO, kd⟩ := hK.2.1
  obtain ⟨ad, Q, -, -, v1, v2, v3, v4⟩ := zV_row kV
  obtain ⟨A, g, a1, a2, a3, -⟩ := id hO
  have h10 : ¬ (1 : Int32) = 0 := by decide
  have c0 := qc_isfig (x := x) k0 kV
  have m0 := qm_isfig (x := x) a1 a2 v3
  rcases zw_fig_c x v3 with e | ⟨i, hi, ex, e⟩
  · refine zt_ro (r := -1) hK hO ?_ ?_
    · simp only [zc93, zB93, k0, c0, e, zm_nx, zq_rc_o, zq_bi_o, zq_bl_o, zq_bv_o, not_true_eq_false, not_false_eq_true, if_true, if_false, h10, ite_self]
    · simp only [zc185, zB185, a1.1, m0, e, zm_nx, zq_rc_o, zq_bi_o, zq_bl_o, zq_bv_o, not_true_eq_false, not_false_eq_true, if_true, if_false, h10, ite_self]
  · subst ex
    rw [e] at c0
    obtain ⟨h1, b1, b2, b3⟩ := qc_fb (w := 0) (M := 3) hi (by decide) hK
    have b1' : zm_call 116 [.ref 0, .int (nI i), .int (0 : Int32), .int (3 : Int32)] h = _ := b1
    refine zt_mk hO (r := zp_fb Y.2.2.2.1 i 0 Y.1 4 0 0) ?_ b2 (zFr_mn b3 (by omega) (by omega)) fun O1 => ?_
    · simp only [zc93, zB93, k0, c0, b1', zm_nx, zq_rc_o, zq_bi_o, zq_bl_o, zq_bv_o, not_true_eq_false, not_false_eq_true, if_true, if_false, h10, ite_self]
    obtain ⟨A, g, sa, J, a2, hA, hm, h144, hs⟩ := zo_Js0 O1 hK
    have m0 := qm_isfig (x := nI i) J.1 a2 v3
    rw [e] at m0
    obtain ⟨h2, g2, q1, q2, q3, -⟩ := qm_kindsOf hi hA hm h144 hs kO kd J a2
    have R := zo_Je (P := Y.1) hK.2.2.2.2.2.1 O1 J.1 q2 q3
    refine ⟨h2, ?_, R.1, R.2⟩
    simp only [zc185, zB185, J.1.1, m0, q1, zm_nx, zq_rc_o, zq_bi_o, zq_bl_o, zq_bv_o, not_true_eq_false, not_false_eq_true, if_true, if_false, h10, ite_self]
theorem zt_sizes (x : Int32) (hK : zk_K h Y) (hO : zo_K h Y) : zt_R 94 186 [.int x] h := by
  have k0 := hK.1
  obtain ⟨kV, kO, kd⟩ := hK.2.1
  obtain ⟨ad, Q, -, -, v1, v2, v3, v4⟩ := zV_row kV
  obtain ⟨A, g, a1, a2, a3, -⟩ := id hO
  have h10 : ¬ (1 : Int32) = 0 := by decide
  have c0 := qc_isfig (x := x) k0 kV
  have m0 := qm_isfig (x := x) a1 a2 v3
  rcases zw_fig_c x v3 with e | ⟨i, hi, ex, e⟩
  · refine zt_ro (r := -1) hK hO ?_ ?_
    · simp only [zc94, zB94, k0, c0, e, zm_nx, zq_rc_o, zq_bi_o, zq_bl_o, zq_bv_o, not_true_eq_false, not_false_eq_true, if_true, if_false, h10, ite_self]
    · simp only [zc186, zB186, a1.1, m0, e, zm_nx, zq_rc_o, zq_bi_o, zq_bl_o, zq_bv_o, not_true_eq_false, not_false_eq_true, if_true, if_false, h10, ite_self]
  · subst ex
    rw [e] at c0
    obtain ⟨h1, b1, b2, b3⟩ := qc_fb (w := 1) (M := 30) hi (by decide) hK
    have b1' : zm_call 116 [.ref 0, .int (nI i), .int (1 : Int32), .int (30 : Int32)] h = _ := b1
    refine zt_mk hO (r := zp_fb Y.2.2.2.1 i 1 Y.1 31 0 0) ?_ b2 (zFr_mn b3 (by omega) (by omega)) fun O1 => ?_
    · simp only [zc94, zB94, k0, c0, b1', zm_nx, zq_rc_o, zq_bi_o, zq_bl_o, zq_bv_o, not_true_eq_false, not_false_eq_true, if_true, if_false, h10, ite_self]
    obtain ⟨A, g, sa, J, a2, hA, hm, h144, hs⟩ := zo_Js0 O1 hK
    have m0 := qm_isfig (x := nI i) J.1 a2 v3
    rw [e] at m0
    obtain ⟨dd, hdd⟩ := J.2.2.2.2.1
    obtain ⟨h2, g2, q1, q2, q3⟩ := qm_sizes_l hi hA hm h144 hs kO kd 31 0 0 h1 g dd (Y.1.2.1 i) (by omega) rfl J (by rw [zp_sf_self]; exact a2) hdd rfl
    have R := zo_Je (P := Y.1) hK.2.2.2.2.2.1 O1 J.1 q2 q3
    refine ⟨h2, ?_, R.1, R.2⟩
    have l1 : ∀ o : Int32 → zm_O, zq_al (.inl (0, 186, .inl g)) 0 ((5 : Int32) + nI i) o = o (Y.1.2.1 i).2.1 := fun o => zy_al (j := 0 + 5 + i) (by rw [Nat.zero_add]; exact nI_add 5 i) (by omega) (by decide) (a2.2.1 i hi).2.1
    rw [zc186, zm_nx, zb186_0]
    simp only [J.1.1, zq_rc_o, m0, zq_bi_o, h10, not_false_eq_true, if_true, zm_nx]
    rw [zb186_10]
    simp only [J.1.1, zor0, J.1.2, l1, zm_nx]
    exact q1
end ZT71
