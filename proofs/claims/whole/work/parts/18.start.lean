def zAll (b : Nat) (l : List (List (Nat × List (Nat × zm_F)))) : Prop := ∀ (i : Nat) (c : List (Nat × List (Nat × zm_F))), l[i]? = some c → ∀ pc, zm_Snd (b + i) pc (zm_lk2 c pc)
theorem zac {b : Nat} {c : List (Nat × List (Nat × zm_F))} {l : List (List (Nat × List (Nat × zm_F)))} (h : ∀ pc, zm_Snd b pc (zm_lk2 c pc)) (t : zAll (b + 1) l) : zAll b (c :: l) := by
  intro i c0 hi pc
  cases i with
  | zero => simp at hi; subst hi; exact h pc
  | succ i =>
    have := t i c0 (by simpa using hi) pc
    rw [show b + (i + 1) = b + 1 + i by omega]
    exact this
theorem zan {b : Nat} : zAll b [] := fun i c h => by simp at h
set_option maxRecDepth 100000 in
theorem zA0 : zAll 0 [zm_c0, zm_c1, zm_c2, zm_c3, zm_c4, zm_c5, zm_c6, zm_c7, zm_c8, zm_c9, zm_c10, zm_c11, zm_c12, zm_c13, zm_c14, zm_c15, zm_c16, zm_c17, zm_c18, zm_c19, zm_c20, zm_c21, zm_c22, zm_c23, zm_c24, zm_c25, zm_c26, zm_c27, zm_c28, zm_c29, zm_c30, zm_c31, zm_c32, zm_c33, zm_c34, zm_c35, zm_c36, zm_c37, zm_c38, zm_c39] := zac (b := 0) zS0 (zac (b := 1) zS1 (zac (b := 2) zS2 (zac (b := 3) zS3 (zac (b := 4) zS4 (zac (b := 5) zS5 (zac (b := 6) zS6 (zac (b := 7) zS7 (zac (b := 8) zS8 (zac (b := 9) zS9 (zac (b := 10) zS10 (zac (b := 11) zS11 (zac (b := 12) zS12 (zac (b := 13) zS13 (zac (b := 14) zS14 (zac (b := 15) zS15 (zac (b := 16) zS16 (zac (b := 17) zS17 (zac (b := 18) zS18 (zac (b := 19) zS19 (zac (b := 20) zS20 (zac (b := 21) zS21 (zac (b := 22) zS22 (zac (b := 23) zS23 (zac (b := 24) zS24 (zac (b := 25) zS25 (zac (b := 26) zS26 (zac (b := 27) zS27 (zac (b := 28) zS28 (zac (b := 29) zS29 (zac (b := 30) zS30 (zac (b := 31) zS31 (zac (b := 32) zS32 (zac (b := 33) zS33 (zac (b := 34) zS34 (zac (b := 35) zS35 (zac (b := 36) zS36 (zac (b := 37) zS37 (zac (b := 38) zS38 (zac (b := 39) zS39 (zan))))))))))))))))))))))))))))))))))))))))
set_option maxRecDepth 100000 in
theorem zA40 : zAll 40 [zm_c40, zm_c41, zm_c42, zm_c43, zm_c44, zm_c45, zm_c46, zm_c47, zm_c48, zm_c49, zm_c50, zm_c51, zm_c52, zm_c53, zm_c54, zm_c55, zm_c56, zm_c57, zm_c58, zm_c59, zm_c60, zm_c61, zm_c62, zm_c63, zm_c64, zm_c65, zm_c66, zm_c67, zm_c68, zm_c69, zm_c70, zm_c71, zm_c72, zm_c73, zm_c74, zm_c75, zm_c76, zm_c77, zm_c78, zm_c79] := zac (b := 40) zS40 (zac (b := 41) zS41 (zac (b := 42) zS42 (zac (b := 43) zS43 (zac (b := 44) zS44 (zac (b := 45) zS45 (zac (b := 46) zS46 (zac (b := 47) zS47 (zac (b := 48) zS48 (zac (b := 49) zS49 (zac (b := 50) zS50 (zac (b := 51) zS51 (zac (b := 52) zS52 (zac (b := 53) zS53 (zac (b := 54) zS54 (zac (b := 55) zS55 (zac (b := 56) zS56 (zac (b := 57) zS57 (zac (b := 58) zS58 (zac (b := 59) zS59 (zac (b := 60) zS60 (zac (b := 61) zS61 (zac (b := 62) zS62 (zac (b := 63) zS63 (zac (b := 64) zS64 (zac (b := 65) zS65 (zac (b := 66) zS66 (zac (b := 67) zS67 (zac (b := 68) zS68 (zac (b := 69) zS69 (zac (b := 70) zS70 (zac (b := 71) zS71 (zac (b := 72) zS72 (zac (b := 73) zS73 (zac (b := 74) zS74 (zac (b := 75) zS75 (zac (b := 76) zS76 (zac (b := 77) zS77 (zac (b := 78) zS78 (zac (b := 79) zS79 (zan))))))))))))))))))))))))))))))))))))))))
set_option maxRecDepth 100000 in
theorem zA80 : zAll 80 [zm_c80, zm_c81, zm_c82, zm_c83, zm_c84, zm_c85, zm_c86, zm_c87, zm_c88, zm_c89, zm_c90, zm_c91, zm_c92, zm_c93, zm_c94, zm_c95, zm_c96, zm_c97, zm_c98, zm_c99, zm_c100, zm_c101, zm_c102, zm_c103, zm_c104, zm_c105, zm_c106, zm_c107, zm_c108, zm_c109, zm_c110, zm_c111, zm_c112, zm_c113, zm_c114, zm_c115, zm_c116, zm_c117, zm_c118, zm_c119] := zac (b := 80) zS80 (zac (b := 81) zS81 (zac (b := 82) zS82 (zac (b := 83) zS83 (zac (b := 84) zS84 (zac (b := 85) zS85 (zac (b := 86) zS86 (zac (b := 87) zS87 (zac (b := 88) zS88 (zac (b := 89) zS89 (zac (b := 90) zS90 (zac (b := 91) zS91 (zac (b := 92) zS92 (zac (b := 93) zS93 (zac (b := 94) zS94 (zac (b := 95) zS95 (zac (b := 96) zS96 (zac (b := 97) zS97 (zac (b := 98) zS98 (zac (b := 99) zS99 (zac (b := 100) zS100 (zac (b := 101) zS101 (zac (b := 102) zS102 (zac (b := 103) zS103 (zac (b := 104) zS104 (zac (b := 105) zS105 (zac (b := 106) zS106 (zac (b := 107) zS107 (zac (b := 108) zS108 (zac (b := 109) zS109 (zac (b := 110) zS110 (zac (b := 111) zS111 (zac (b := 112) zS112 (zac (b := 113) zS113 (zac (b := 114) zS114 (zac (b := 115) zS115 (zac (b := 116) zS116 (zac (b := 117) zS117 (zac (b := 118) zS118 (zac (b := 119) zS119 (zan))))))))))))))))))))))))))))))))))))))))
set_option maxRecDepth 100000 in
theorem zA120 : zAll 120 [zm_c120, zm_c121, zm_c122, zm_c123, zm_c124, zm_c125, zm_c126, zm_c127, zm_c128, zm_c129, zm_c130, zm_c131, zm_c132, zm_c133, zm_c134, zm_c135, zm_c136, zm_c137, zm_c138, zm_c139, zm_c140, zm_c141, zm_c142, zm_c143, zm_c144, zm_c145, zm_c146, zm_c147, zm_c148, zm_c149, zm_c150, zm_c151, zm_c152, zm_c153, zm_c154, zm_c155, zm_c156, zm_c157, zm_c158, zm_c159] := zac (b := 120) zS120 (zac (b := 121) zS121 (zac (b := 122) zS122 (zac (b := 123) zS123 (zac (b := 124) zS124 (zac (b := 125) zS125 (zac (b := 126) zS126 (zac (b := 127) zS127 (zac (b := 128) zS128 (zac (b := 129) zS129 (zac (b := 130) zS130 (zac (b := 131) zS131 (zac (b := 132) zS132 (zac (b := 133) zS133 (zac (b := 134) zS134 (zac (b := 135) zS135 (zac (b := 136) zS136 (zac (b := 137) zS137 (zac (b := 138) zS138 (zac (b := 139) zS139 (zac (b := 140) zS140 (zac (b := 141) zS141 (zac (b := 142) zS142 (zac (b := 143) zS143 (zac (b := 144) zS144 (zac (b := 145) zS145 (zac (b := 146) zS146 (zac (b := 147) zS147 (zac (b := 148) zS148 (zac (b := 149) zS149 (zac (b := 150) zS150 (zac (b := 151) zS151 (zac (b := 152) zS152 (zac (b := 153) zS153 (zac (b := 154) zS154 (zac (b := 155) zS155 (zac (b := 156) zS156 (zac (b := 157) zS157 (zac (b := 158) zS158 (zac (b := 159) zS159 (zan))))))))))))))))))))))))))))))))))))))))
set_option maxRecDepth 100000 in
theorem zA160 : zAll 160 [zm_c160, zm_c161, zm_c162, zm_c163, zm_c164, zm_c165, zm_c166, zm_c167, zm_c168, zm_c169, zm_c170, zm_c171, zm_c172, zm_c173, zm_c174, zm_c175, zm_c176, zm_c177, zm_c178, zm_c179, zm_c180, zm_c181, zm_c182, zm_c183, zm_c184, zm_c185, zm_c186, zm_c187, zm_c188, zm_c189, zm_c190, zm_c191, zm_c192, zm_c193, zm_c194, zm_c195, zm_c196, zm_c197] := zac (b := 160) zS160 (zac (b := 161) zS161 (zac (b := 162) zS162 (zac (b := 163) zS163 (zac (b := 164) zS164 (zac (b := 165) zS165 (zac (b := 166) zS166 (zac (b := 167) zS167 (zac (b := 168) zS168 (zac (b := 169) zS169 (zac (b := 170) zS170 (zac (b := 171) zS171 (zac (b := 172) zS172 (zac (b := 173) zS173 (zac (b := 174) zS174 (zac (b := 175) zS175 (zac (b := 176) zS176 (zac (b := 177) zS177 (zac (b := 178) zS178 (zac (b := 179) zS179 (zac (b := 180) zS180 (zac (b := 181) zS181 (zac (b := 182) zS182 (zac (b := 183) zS183 (zac (b := 184) zS184 (zac (b := 185) zS185 (zac (b := 186) zS186 (zac (b := 187) zS187 (zac (b := 188) zS188 (zac (b := 189) zS189 (zac (b := 190) zS190 (zac (b := 191) zS191 (zac (b := 192) zS192 (zac (b := 193) zS193 (zac (b := 194) zS194 (zac (b := 195) zS195 (zac (b := 196) zS196 (zac (b := 197) zS197 (zan))))))))))))))))))))))))))))))))))))))
theorem zaa {b k : Nat} {l r : List (List (Nat × List (Nat × zm_F)))} (hl : l.length = k) (h : zAll b l) (t : zAll (b + k) r) : zAll b (l ++ r) := by
  intro i c hi pc
  by_cases h1 : i < l.length
  · rw [List.getElem?_append_left h1] at hi
    exact h i c hi pc
  · rw [List.getElem?_append_right (by omega)] at hi
    have := t (i - l.length) c hi pc
    rw [show b + i = b + k + (i - l.length) by omega]
    exact this
set_option maxRecDepth 100000 in
theorem zA : zAll 0 zm_codes := zaa (b := 0) (k := 40) rfl zA0 (zaa (b := 40) (k := 40) rfl zA40 (zaa (b := 80) (k := 40) rfl zA80 (zaa (b := 120) (k := 40) rfl zA120 (zA160))))
theorem zm_all : ∀ M pc, zm_Snd M pc (zm_stp M pc) := by
  intro M pc
  unfold zm_stp zm_code
  cases h : zm_codes[M]? with
  | none => exact zs_none
  | some c =>
    have := zA M c h pc
    rw [Nat.zero_add] at this
    exact this
/-! THE CLAIM OUT OF ONE WALK OF THE LAW'S BODY. Your part is whole_start (and what it stands on); all else here is the same for every law, but numbers. -/
def R_law : String := "SnowReignLaw"
def lw_P (b : Addr) (xs : List Int32) (args : Array Value) (s : State) : Prop := args = #[.ref b] ∧ s.IntsAt b xs ∧ xs.length ≤ 320 ∧ (Jvm.Cond.and given_1 narrow_1).before args s = true
def lw_Q (_ : Array Value) (s : State) (o : Outcome) (t : State) : Prop := o = .returned (some (.int 1)) ∧ Framed s o t [] 600000 7302250
def lw_Z (below : List Frame) (a : Array Value) (s : State) : State → Prop := fun t => ∃ o, t.status = .running ∧ Ended t below o ∧ lw_Q a s o t
/-- the law's own end, with 1 on the stack, nothing written that was there before, its room as the claim has it -/
theorem lw_ret {p : Program} {l : Launch} {e : Env} {s : State} {m : MethodId} {below : List Frame} {meth : Method} {c : Code} {b : Nat} (hx : p.tables.exec = Jvm.exec) (hb : c.code = code) (hr : meth.sig.returnType = ret) (hlocks : meth.locks = false) {pc : Nat} {H : Heap} {ls : Array Slot} (hdg : decode code pc = .ok (.ireturn, 1)) : W p l e room_1 s m #[Value.ref b] below meth c H [] 600000 7302250 (lw_Z below #[Value.ref b] s) (F0 m pc ls [.int 1]) := by
  intro T hT X
  obtain ⟨fs, hret, hrun, hended, hW, hframe⟩ := X.leave (v := some (.int 1)) (hlocks := hlocks) (fun h => by rw [hr] at h; cases h)
  have hmeth' : T.vm.method? m = some meth := X.method'
  refine ⟨T.setFrames fs, ?_, .returned (some (.int 1)), hrun, hended, rfl, ⟨_, rfl⟩, hW, hframe⟩
  jvm_step X.here [X.here.top, hx, hb, hdg, hmeth', hr, ret, narrow_b1]
  (try refine ⟨rfl, ?_⟩); (try refine ⟨rfl, ?_⟩)
  first | (intro acts; rw [hret _ acts rfl rfl rfl]) | rw [hret _ _ rfl rfl rfl]
  exact Steps.refl _
/-- what holds at the law's entry: the machine, the code, the tables' words (any of lw_tbl by 'hts w (by decide +kernel)'), the script of L ints xs at the cell b, what the Statement gives of the start (any of its parts by flat_of_before) -/
def lw_At (p : Program) (s : State) (m : MethodId) (meth : Method) (c : Code) (b L : Nat) (xs : Nat → Int32) : Prop :=
  p.tables.exec = Jvm.exec ∧ c.code = code ∧ meth.sig.returnType = ret ∧ c.maxLocals = 4 ∧ s.vm.findClass R_law = some m.cls ∧ (∀ w ∈ lw_tbl, w.before #[Value.ref b] s = true) ∧ va_X b L xs s s.heap ∧ b < s.heap.size ∧ meth.locks = false ∧ (Jvm.Cond.and given_1 narrow_1).before #[Value.ref b] s = true

def zm_h0 (L : Nat) (xs : Nat → Int32) : zm_H := (0, 0, fun b => if b = 1000000 then .inl (8, L, .inl xs) else zm_J)
def zm_Pure : Prop := ∀ (L : Nat) (xs : Nat → Int32), L ≤ 320 → ∃ h' : zm_H, zm_call 197 [.ref 1000000] (zm_h0 L xs) = some (some (.int 1), h') ∧ h'.1 ≤ 600000 ∧ h'.2.1 ≤ 7302250
def zm_tm (i : Nat) : Term := Term.string "SnowReign$TextReader" (zm_six.getD i 0)
theorem zf_1 : ∀ i, i < 5 → Cond.exactly (zm_tm i) "java/lang/String" ∈ flatC (Jvm.Cond.and given_1 narrow_1) := by decide +kernel
theorem zf_2 : ∀ i, i < 5 → Cond.eq (.field (zm_tm i) "java/lang/String" "coder" "B") (.int 0) ∈ flatC (Jvm.Cond.and given_1 narrow_1) := by decide +kernel
theorem zf_3 : ∀ i, i < 5 → Cond.arrayOf (.field (zm_tm i) "java/lang/String" "value" "[B") .byte ∈ flatC (Jvm.Cond.and given_1 narrow_1) := by decide +kernel
theorem zf_4 : ∀ i, i < 5 → Cond.eq (.length (.field (zm_tm i) "java/lang/String" "value" "[B")) (.int (Int32.ofNat (zm_len.getD i 0))) ∈ flatC (Jvm.Cond.and given_1 narrow_1) := by decide +kernel
theorem zf_5 : ∀ i, i < 5 → ∀ j, j < zm_len.getD i 0 → Cond.eq (.elem (.field (zm_tm i) "java/lang/String" "value" "[B") (.int (Int32.ofNat j))) (.int ((zm_byt.getD i []).getD j 0)) ∈ flatC (Jvm.Cond.and given_1 narrow_1) := by decide +kernel
theorem zf_6 : ∀ i, i < 5 → ∀ j, j < 5 → i ≠ j → (Cond.not (Cond.eq (zm_tm i) (zm_tm j)) ∈ flatC (Jvm.Cond.and given_1 narrow_1) ∨ Cond.not (Cond.eq (zm_tm j) (zm_tm i)) ∈ flatC (Jvm.Cond.and given_1 narrow_1)) := by decide +kernel
theorem zf_7 : ∀ j, j < 3 → Cond.eq (.elem (.static "SnowReign" "MOST_OF_FIGURE" "[I") (.int (Int32.ofNat j))) (.int (zm_most j)) ∈ flatC (Jvm.Cond.and given_1 narrow_1) := by decide +kernel
theorem zf_8 : Cond.arrayOf (.static "SnowReign" "MOST_OF_FIGURE" "[I") .int ∈ flatC (Jvm.Cond.and given_1 narrow_1) := by decide +kernel
theorem zf_9 : Cond.eq (.length (.static "SnowReign" "MOST_OF_FIGURE" "[I")) (.int 3) ∈ flatC (Jvm.Cond.and given_1 narrow_1) := by decide +kernel
theorem zf_10 : Cond.eq (.static "java/lang/String" "COMPACT_STRINGS" "Z") (.int 1) ∈ flatC (Jvm.Cond.and given_1 narrow_1) := by decide +kernel
theorem zf_11 : Cond.isRef (.static "jdk/internal/util/Preconditions" "SIOOBE_FORMATTER" "Ljava/util/function/BiFunction;") ∈ flatC (Jvm.Cond.and given_1 narrow_1) := by decide +kernel
theorem zg_1 : Cond.laysStatic "SnowReign" "MOST_OF_FIGURE" "[I" ∈ lw_tbl := List.mem_of_getElem? (i := 488) (by decide +kernel)
theorem zg_2 : Cond.laysStatic "java/lang/String" "COMPACT_STRINGS" "Z" ∈ lw_tbl := List.mem_of_getElem? (i := 340) (by decide +kernel)
theorem zg_3 : Cond.laysStatic "jdk/internal/util/Preconditions" "SIOOBE_FORMATTER" "Ljava/util/function/BiFunction;" ∈ lw_tbl := List.mem_of_getElem? (i := 356) (by decide +kernel)
theorem zg_4 : Cond.initialized "SnowReign" ∈ lw_tbl := List.mem_of_getElem? (i := 49) (by decide +kernel)
theorem zg_5 : Cond.initialized "java/lang/String" ∈ lw_tbl := List.mem_of_getElem? (i := 58) (by decide +kernel)
theorem zg_6 : Cond.initialized "jdk/internal/util/Preconditions" ∈ lw_tbl := List.mem_of_getElem? (i := 60) (by decide +kernel)
theorem zg_s0 : Cond.stringRef "SnowReign$TextReader" 74 "powder" ∈ lw_tbl := List.mem_of_getElem? (i := 326) (by decide +kernel)
theorem zg_s1 : Cond.stringRef "SnowReign$TextReader" 76 "packed" ∈ lw_tbl := List.mem_of_getElem? (i := 379) (by decide +kernel)
theorem zg_s2 : Cond.stringRef "SnowReign$TextReader" 78 "wet" ∈ lw_tbl := List.mem_of_getElem? (i := 380) (by decide +kernel)
theorem zg_s3 : Cond.stringRef "SnowReign$TextReader" 80 "iced" ∈ lw_tbl := List.mem_of_getElem? (i := 381) (by decide +kernel)
theorem zg_s4 : Cond.stringRef "SnowReign$TextReader" 62 "day" ∈ lw_tbl := List.mem_of_getElem? (i := 406) (by decide +kernel)
theorem zg_a0 : Cond.arrayOver (.object "SnowReign$Figure") ∈ lw_tbl := List.mem_of_getElem? (i := 86) (by decide +kernel)
theorem zg_a1 : Cond.arrayOver (.object "SnowReign$Row") ∈ lw_tbl := List.mem_of_getElem? (i := 145) (by decide +kernel)
theorem zg_a2 : Cond.arrayOver (.object "SnowReign$Province") ∈ lw_tbl := List.mem_of_getElem? (i := 211) (by decide +kernel)
theorem zg_a3 : Cond.arrayOver (.object "SnowReign$Sheet") ∈ lw_tbl := List.mem_of_getElem? (i := 213) (by decide +kernel)
theorem zg_a4 : Cond.arrayOver (.array .int) ∈ lw_tbl := List.mem_of_getElem? (i := 148) (by decide +kernel)
theorem zg_n0 : Cond.methodLinkNest RX2 17 yX0_init "SnowReign" ∈ lw_tbl := List.mem_of_getElem? (i := 88) (by decide +kernel)
theorem zg_n1 : Cond.methodLinkNest RX6 21 yX0_init "SnowReign" ∈ lw_tbl := List.mem_of_getElem? (i := 143) (by decide +kernel)
theorem zm_St_start {s : State} {b L : Nat} {xs : Nat → Int32} (hts : ∀ w ∈ lw_tbl, w.before #[Value.ref b] s = true) (hX : va_X b L xs s s.heap) (hbl : b < s.heap.size) (hgv : (Jvm.Cond.and given_1 narrow_1).before #[Value.ref b] s = true) : ∃ sp : Nat → Value, sp 0 = .ref b ∧ zm_St sp L xs (fun q => s.heap.size ≤ q) s := by
  have hs := flat_of_before _ hgv
  have hA : ∀ a : Nat, a < s.heap.size → ¬ (fun q : Nat => s.heap.size ≤ q) a := fun a h => Nat.not_le.mpr h
  obtain ⟨t0, ht0, hT⟩ := va_Tof (tm := .static "SnowReign" "MOST_OF_FIGURE" "[I") (ty := .int) (N := 3) (f := fun j => .int (zm_most j)) (A := fun q => s.heap.size ≤ q) (by decide) (hs _ zf_8) (va_eqt (hs _ zf_9)) (fun j hj => va_eqt (hs _ (zf_7 j hj))) hA
  have hZ1 := va_Zref (A := fun q => s.heap.size ≤ q) (hts _ zg_1) (hts _ zg_4) ht0 hA
  have hZ2 := va_Zof (A := fun q => s.heap.size ≤ q) (hts _ zg_2) (hts _ zg_5) (va_eqi (hs _ zf_10)) hA
  have hZ3 := va_Zqof (A := fun q => s.heap.size ≤ q) (hts _ zg_3) (hts _ zg_6) (hs _ zf_11) hA
  obtain ⟨adK, adV, hK, hK2⟩ := vk_Sof (args := #[Value.ref b]) (s := s) (N := 5) (tm := zm_tm) (len := zm_len) (byt := zm_byt) (A := fun q => s.heap.size ≤ q) (by decide) (fun i hi => hs _ (zf_1 i hi)) (fun i hi => hs _ (zf_2 i hi)) (fun i hi => hs _ (zf_3 i hi)) (fun i hi => hs _ (zf_4 i hi)) (fun i hi j hj => hs _ (zf_5 i hi j hj)) (fun i j hi hj hne => (zf_6 i hi j hj hne).elim (fun h => Or.inl (hs _ h)) (fun h => Or.inr (hs _ h))) hA
  obtain ⟨vf, hvf, hvc⟩ : ∃ vf : Value, va_Z "jdk/internal/util/Preconditions" "SIOOBE_FORMATTER" "Ljava/util/function/BiFunction;" vf (fun q => s.heap.size ≤ q) s s.heap ∧ vf.category = 1 := by
    rcases hZ3 with h | ⟨t, h⟩
    · exact ⟨_, h, rfl⟩
    · exact ⟨_, h, rfl⟩
  have hRf : ∀ i, i < 5 → vk_R "SnowReign$TextReader" (zm_six.getD i 0) (zm_stx.getD i "") (adK i) s := by
    intro i hi
    rcases (show i = 0 ∨ i = 1 ∨ i = 2 ∨ i = 3 ∨ i = 4 by omega) with rfl | rfl | rfl | rfl | rfl
    · exact vk_R.of (hts _ zg_s0) (hK2 0 (by decide))
    · exact vk_R.of (hts _ zg_s1) (hK2 1 (by decide))
    · exact vk_R.of (hts _ zg_s2) (hK2 2 (by decide))
    · exact vk_R.of (hts _ zg_s3) (hK2 3 (by decide))
    · exact vk_R.of (hts _ zg_s4) (hK2 4 (by decide))
  refine ⟨fun k => if k = 0 then .ref b else if k = 1 then .ref t0 else if k = 12 then vf else if k < 7 then .ref (adK (k - 2)) else .ref (adV (k - 7)), rfl, b, t0, adK, adV, ⟨rfl, rfl, fun i hi => ?_, fun i hi => ?_, fun k => ?_⟩, ⟨hX, hbl, Nat.not_le.mpr hbl⟩, ⟨hZ1, hT⟩, ⟨hZ2, hvf⟩, ⟨hK, hRf⟩, ⟨va_AO.of (hts _ zg_a0), va_AO.of (hts _ zg_a1), va_AO.of (hts _ zg_a2), va_AO.of (hts _ zg_a3), hts _ zg_a4⟩, ⟨va_tabs rfl rfl (hts _ zg_n0), va_tabs rfl rfl (hts _ zg_n1)⟩⟩
  · rcases (show i = 0 ∨ i = 1 ∨ i = 2 ∨ i = 3 ∨ i = 4 by omega) with rfl | rfl | rfl | rfl | rfl <;> rfl
  · rcases (show i = 0 ∨ i = 1 ∨ i = 2 ∨ i = 3 ∨ i = 4 by omega) with rfl | rfl | rfl | rfl | rfl <;> rfl
  · by_cases h0 : k = 0
    · simp [h0, Value.category]
    · by_cases h1 : k = 1
      · simp [h1, Value.category]
      · by_cases h2 : k = 12
        · simp [h2, hvc]
        · by_cases h3 : k < 7
          · simp [h0, h1, h2, h3, Value.category]
          · simp [h0, h1, h2, h3, Value.category]
set_option maxRecDepth 100000 in
set_option maxHeartbeats 4000000 in
theorem zm_start (hpure : zm_Pure) {p : Program} {e : Env} {s : State} {m : MethodId} {below : List Frame} {meth : Method} {c : Code} (l : Launch) {b L : Nat} {xs : Nat → Int32} (hL : L ≤ 320) (C0 : lw_At p s m meth c b L xs) : W p l e room_1 s m #[Value.ref b] below meth c s.heap [] 0 0 (lw_Z below #[Value.ref b] s) (entryFrame m ([Value.ref b] : List Value).toArray 4) := by
  obtain ⟨hx, hb, hr, hml, hown, hts, hX, hbl, hlocks, hgv⟩ := C0
  have htz : ∀ w ∈ zT, w.before #[Value.ref b] s = true := fun w hw => hts w (zT_sub w hw)
  obtain ⟨sp, hsp0, hSt⟩ := zm_St_start hts hX hbl hgv
  obtain ⟨c0, iS0, hKn0⟩ := u_known (C := RX0) (T := TX0) (N := 3) (n := 3) htz zin_0 (htz _ zw_87)
  obtain ⟨c1, iS1, hKn1⟩ := u_known (C := RX1) (T := TX1) (N := 4) (n := 4) htz zin_1 (htz _ zw_74)
  obtain ⟨c2, iS2, hKn2⟩ := u_known (C := RX2) (T := TX2) (N := 2) (n := 2) htz zin_2 (htz _ zw_80)
  obtain ⟨c3, iS3, hKn3⟩ := u_known (C := RX3) (T := TX3) (N := 3) (n := 3) htz zin_3 (htz _ zw_214)
  obtain ⟨c4, iS4, hKn4⟩ := u_known (C := RX4) (T := TX4) (N := 6) (n := 6) htz zin_4 (htz _ zw_156)
  obtain ⟨c5, iS5, hKn5⟩ := u_known (C := RX5) (T := TX5) (N := 6) (n := 6) htz zin_5 (htz _ zw_150)
  obtain ⟨c6, iS6, hKn6⟩ := u_known (C := RX6) (T := TX6) (N := 14) (n := 14) htz zin_6 (htz _ zw_66)
  obtain ⟨c7, iS7, hKn7⟩ := u_known (C := RX7) (T := TX7) (N := 26) (n := 26) htz zin_7 (htz _ zw_791)
  obtain ⟨dC, dI, hKc⟩ : ∃ (dC : Nat → ClassId) (dI : Nat → Nat → Nat), ∀ (k : Nat) (q : vw_C), vwCl[k]? = some q → u_Kn s q.1 q.2.1 q.2.2 (dC k) (dI k) := by
    refine ⟨fun k => if k = 0 then c0 else if k = 1 then c1 else if k = 2 then c2 else if k = 3 then c3 else if k = 4 then c4 else if k = 5 then c5 else if k = 6 then c6 else c7, fun k => if k = 0 then iS0 else if k = 1 then iS1 else if k = 2 then iS2 else if k = 3 then iS3 else if k = 4 then iS4 else if k = 5 then iS5 else if k = 6 then iS6 else iS7, ?_⟩
    intro k q hq
    match k, hq with
    | 0, hq => cases hq; exact hKn0
    | 1, hq => cases hq; exact hKn1
    | 2, hq => cases hq; exact hKn2
    | 3, hq => cases hq; exact hKn3
    | 4, hq => cases hq; exact hKn4
    | 5, hq => cases hq; exact hKn5
    | 6, hq => cases hq; exact hKn6
    | 7, hq => cases hq; exact hKn7
    | k + 8, hq => simp [vwCl] at hq
  have hK : va_K (dC, dI) vwCl [] s := ⟨hKc, fun k q h => by simp at h⟩
  have hS : va_S (fun q : Nat => s.heap.size ≤ q) s.heap s.heap [] := va_S.rf
  have hP : va_P (dC, dI) vwCl [] s.heap := fun k q h => by simp at h
  have hD : va_D (fun q : Nat => s.heap.size ≤ q) [] := ⟨fun i j p q h => by simp at h, fun k q h => by simp at h⟩
  obtain ⟨h', hcall, hc1, hc2⟩ := hpure L xs hL
  obtain ⟨n, hn⟩ := zm_den_iff.mp hcall
  have hl := lv_entry ([.ref b]) (n := 4) (Nat.le_of_ble_eq_true rfl)
  rw [lg_entry_eq]
  have hXX : zm_X 197 sp L xs dC dI (fun q : Nat => s.heap.size ≤ q) p room_1 s m #[Value.ref b] meth c :=
    ⟨hx, hb, hml, hown, htz, hK, hSt, fun _ h => h, fun z => absurd z (by decide +kernel), Nat.le_of_ble_eq_true rfl, Nat.le_of_ble_eq_true rfl⟩
  have hcv : zm_cv sp [] (.ref 1000000) = some (.ref b) := by
    rw [← hsp0]
    exact zm_sp_cv sp [] 0 (by decide)
  have hSr : zm_S 197 sp L xs dC dI (fun q : Nat => s.heap.size ≤ q) s s.heap [] [] (zm_ent 197 [.ref 1000000]) [] (zm_h0 L xs) _ [] := ⟨hP, hD, hS, ⟨rfl, Nat.zero_le _, fun a ha => absurd ha (Nat.not_lt_zero a), fun a _ hne => if_neg hne, rfl⟩, ⟨_, hl, fun i v hi hv => ?_, fun q hq hq2 => ?_⟩, trivial⟩
  · refine zm_ok zm_all n hn hXX (Nat.le_of_ble_eq_true rfl) (Nat.le_of_ble_eq_true rfl) (Nat.le_of_ble_eq_true rfl) hSr (by show 0 + (h'.1 - 0) ≤ 600000; omega) (by show 0 + (h'.2.1 - 0) ≤ 7302250; omega) ?_
    intro pc' H' locs' ws' LS' ST' ls' st' hE hS' hR
    obtain ⟨s1, s2, s3, s4, -, s6⟩ := hS'
    rcases hR with ⟨x, hv, hst, hd, ty, hty, hn⟩ | ⟨x, hv, -⟩ | ⟨hv, -⟩
    · cases hv
      rw [hst] at s6
      obtain ⟨ST0, rfl, h0⟩ := zv_i s6
      have := zv_n h0
      subst this
      refine va_forget (fun q hq => s3.2.2 q hq) ?_
      refine W.widen (k := 600000) (n := 7302250) (by show 0 + (h'.1 - 0) ≤ 600000; omega) (by show 0 + (h'.2.1 - 0) ≤ 7302250; omega) ?_
      exact lw_ret hx hb hr hlocks hd
    · cases hv
    · cases hv
  · match i, hi with
    | 0, hi =>
      have : v = .ref 1000000 := (Option.some.inj hi).symm
      subst this
      exact ⟨_, hcv, List.mem_cons_self⟩
    | 1, hi => exact absurd (Option.some.inj hi).symm hv
    | 2, hi => exact absurd (Option.some.inj hi).symm hv
    | 3, hi => exact absurd (Option.some.inj hi).symm hv
    | k + 4, hi => cases hi
  · simp only [lv_args, List.mem_cons, List.not_mem_nil, or_false] at hq
    subst hq
    cases hq2
