section ZPUTS
variable {h : zm_H} {Y : zy_T}
theorem qm_puts {A g : Nat → Int32} {x v less : Int32} {j : Nat} (hM : zo_M h 137 A g) (hx : ¬ x = 0) (hj : j < 186) : zm_call 150 [.ref 137, .int x, .int (nI j), .int v, .int less] h = some (some (.int (g j + less)), zm_s h 138 (.inl (0, 186, .inl (upd g j (v - less))))) := by
  have hc : (186 : Nat) < 2 ^ 31 := by decide
  rw [zc150, zm_nx, zb150_0]
  simp only [hx, not_false_eq_true, if_true, zm_nx, zb150_6, hM.1, zor0, hM.2, zq_al_o hj hc, zq_as_o hj hc]
theorem qm_puts0 {x v less : Int32} {y : Int32} (hx : x = 0) : zm_call 150 [.ref 137, .int x, .int y, .int v, .int less] h = some (some (.int (-1)), h) := by
  rw [zc150, zm_nx, zb150_0]
  simp only [hx, not_true_eq_false, if_false, zm_nx, zb150_4]
/-- page 0 holds another province now -/
theorem zo_now {P : zp_T} {hI : zm_H} (kI : zk_I hI Y.2.2.2.2.1) (hO : zo_K h Y) {h' : zm_H} {A g g' : Nat → Int32} (hM : zo_M h 137 A g) (hM' : zo_M h' 137 A g') (hP : zs_P g' 0 P) (hg : ∀ q, 31 ≤ q → q < 93 → g' q = g q) (hF : zm_Fr h h' 138 139) : zo_K h' (P, Y.2) := by
  obtain ⟨A0, g0, a1, a2, a3, ⟨r1, a4⟩, ⟨r2, a5, b5⟩, ⟨r3, a6, b6⟩, ⟨r4, a7, b7⟩, ⟨r5, a8⟩, ⟨r6, a9, b9⟩, ⟨r7, a10⟩, ⟨r8, a11, b11⟩, a12, ⟨r9, a13, b13⟩, ⟨r10, a14, b14⟩, ⟨r11, a15, b15⟩⟩ := hO
  have eg : g0 = g := by
    have := a1.2.symm.trans hM.2
    simp only [Sum.inl.injEq, Prod.mk.injEq, true_and] at this
    exact this
  subst eg
  have k : ∀ b, 139 ≤ b → zm_g h' b = zm_g h b := fun b hb => hF.2.2 b (by omega)
  have k0 : zm_g h' 137 = zm_g h 137 := hF.2.2 137 (by omega)
  refine ⟨A0, g', ⟨k0.trans a1.1, hM'.2⟩, hP, a3, ⟨r1, (k _ (by omega)).trans a4⟩, ⟨r2, (k _ (by omega)).trans a5, b5⟩, ⟨r3, (k _ (by omega)).trans a6, b6⟩, ⟨r4, (k _ (by omega)).trans a7, b7⟩, ⟨r5, (k _ (by omega)).trans a8⟩, ⟨r6, (k _ (by omega)).trans a9, b9⟩, ⟨r7, (k _ (by omega)).trans a10⟩, ⟨r8, (k _ (by omega)).trans a11, b11⟩, fun j hj h1 => zs_Pk (a12 j hj h1) (kI.2.2.2.2 j hj h1).1.1 fun q q1 q2 => hg q (by omega) (by omega), ⟨r9, (k _ (by omega)).trans a13, b13⟩, ⟨r10, (k _ (by omega)).trans a14, b14⟩, ⟨r11, (k _ (by omega)).trans a15, b15⟩⟩
end ZPUTS
