section ZCOUP2
variable {h : zm_H} {Y : zy_T}
theorem zo_cop (hK : zk_K h Y) (hO : zo_K h Y) {h' : zm_H} {A g g' : Nat → Int32} (hM : zo_M h 137 A g) (hM' : zo_M h' 137 A g') (hg : ∀ q, q < 93 → g' q = g q) (hF : zm_Fr h h' 138 139) : zo_K h' Y := by
  obtain ⟨-, ⟨-, kO, kd⟩, -, -, -, kI, -⟩ := hK
  obtain ⟨A0, g0, -, -, -, -, -, -, -, ⟨r, a8⟩, -⟩ := id hO
  exact zo_scr hO hM hM' (fun _ _ _ _ => rfl) hg ⟨r, (hF.2.2 143 (by omega)).trans a8⟩ kO.1 (fun j hj h1 => (kI.2.2.2.2 j hj h1).1.1) fun b b1 b2 b3 => hF.2.2 b (by omega)
theorem zt_coup (hK : zk_K h Y) (hO : zo_K h Y) : zt_R 81 169 [] h := by
  have kd := hK.2.1.2.2
  have ho := hK.2.1.2.1
  obtain ⟨h1, t1, t2, t3, t4⟩ := zk_trial hK
  obtain ⟨ad0, Q0, -, -, u1, u2, u3, u4⟩ := zV_row hK.2.2.1.1.choose_spec
  obtain ⟨ad1, Q1, -, -, y1, y2, y3, y4⟩ := zV_row t2
  obtain ⟨h2, s1, ⟨P2, s2⟩, s3⟩ := qc_coup_l (c := zp_reign Y.1) 60 1 h1 Y.1 (by omega) (by omega) t3.1 t2
  have K2 := zk_tr t3 s2 s3
  have O2 : zo_K h2 Y := zo_keep hO fun b b1 b2 => (s3.2.2 b (by omega)).trans (t4.2.2 b (by omega))
  obtain ⟨A, g, a1, a2, -⟩ := id O2
  have w1 : zm_call 143 [.ref 137, .int (0 : Int32)] h2 = some (some (.int (zp_reign Y.1)), h2) := qm_reign (p := 0) (zo_Ms a1) a2 (by omega) ho.1
  obtain ⟨h3, g3, c1, c2, c3, c4, c5⟩ := qm_copies (f := 0) (t := 124) (by omega) (by omega) (by omega) a1
  have c1' : zm_call 160 [.ref 137, .int (0 : Int32), .int (124 : Int32)] h2 = some (none, h3) := c1
  obtain ⟨h4, g4, d1, d2, d3, d4⟩ := qm_coup_l (A := A) (c := zp_reign Y.1) 60 1 h3 g3 Y.1 (by omega) (by omega) ho c2 (zs_Pc a2 ho.1 c3)
  have F4 : zm_Fr h2 h4 138 139 := zFr_tr c5 d4
  refine ⟨h2, h4, zp_coup (zp_reign Y.1) 60 1 Y.1, Y, ?_, ?_, zk_keep K2 fun b hb => F4.2.2 b (by omega), zo_cop K2 O2 a1 d2 (fun q hq => (d3 q (by omega)).trans (c4 q (by omega))) F4, zFr_12 (zFr_mn (zFr_tr t4 s3) (by omega) (by omega)) (zFr_mn F4 (by omega) (by omega))⟩
  · rw [zc81, zm_nx, zb81_0]
    simp only [hK.1, zkr1, zkr0, u1, zq_rc_o, t1, zq_bv_o, t3.1, y1, zgr_1_0, y2, qv_reign t2, zq_bi_o, zm_nx]
    exact s1
  · rw [zc169, zm_nx, zb169_0]
    simp only [a1.1, zq_rc_o, w1, zq_bi_o, c1', zq_bv_o, zm_nx]
    exact d1
end ZCOUP2
