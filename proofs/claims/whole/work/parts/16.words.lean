theorem zd_eq {M : Nat} {cc : ByteArray} (hk : zm_cc M = cc) {pc : Nat} {x : Except DecodeError (Instr × Nat)} (h : decode cc pc = x) : decode (zm_cc M) pc = x := by rw [hk]; exact h
theorem zl_m {M M' idx : Nat} {C : String} {y : MethodName} (h1 : (zm_y M).cls = C) (h2 : zm_y M' = y) (h : Cond.methodLink C idx y ∈ zT) : Cond.methodLink (zm_y M).cls idx (zm_y M') ∈ zT := by rw [h1, h2]; exact h
theorem zl_mo {M idx : Nat} {C : String} {y : MethodName} (h1 : (zm_y M).cls = C) (h : Cond.methodLink C idx y ∈ zT) : Cond.methodLink (zm_y M).cls idx y ∈ zT := by rw [h1]; exact h
theorem zl_f {M idx : Nat} {C a b c : String} (h1 : (zm_y M).cls = C) (h : Cond.fieldLink C idx a b c ∈ zT) : Cond.fieldLink (zm_y M).cls idx a b c ∈ zT := by rw [h1]; exact h
theorem zl_c {M idx : Nat} {C a : String} (h1 : (zm_y M).cls = C) (h : Cond.classLink C idx a ∈ zT) : Cond.classLink (zm_y M).cls idx a ∈ zT := by rw [h1]; exact h
theorem zl_k {M idx : Nat} {C : String} {v : Int32} (h1 : (zm_y M).cls = C) (h : Cond.constant C idx v ∈ zT) : Cond.constant (zm_y M).cls idx v ∈ zT := by rw [h1]; exact h
theorem zl_k2 {M idx : Nat} {C : String} {v : Int64} (h1 : (zm_y M).cls = C) (h : Cond.constantLong C idx v ∈ zT) : Cond.constantLong (zm_y M).cls idx v ∈ zT := by rw [h1]; exact h
theorem zl_s {M : Nat} {y : MethodName} (h2 : zm_y M = y) (h : Cond.static y ∈ zT) : Cond.static (zm_y M) ∈ zT := by rw [h2]; exact h
theorem zl_i {M : Nat} {y : MethodName} (h2 : zm_y M = y) (h : Cond.instanceMethod y ∈ zT) : Cond.instanceMethod (zm_y M) ∈ zT := by rw [h2]; exact h
theorem zl_e {M : Nat} {y : MethodName} (h2 : zm_y M = y) (h : Cond.selects y.cls y y ∈ zT) : Cond.selects (zm_y M).cls (zm_y M) (zm_y M) ∈ zT := by rw [h2]; exact h
theorem zcons {M : Nat} {a : Nat × zm_F} {l : List (Nat × zm_F)} (h : zm_Snd M a.1 a.2) (t : ∀ q ∈ l, zm_Snd M q.1 q.2) : ∀ q ∈ a :: l, zm_Snd M q.1 q.2 := List.forall_mem_cons.mpr ⟨h, t⟩
theorem znil {M : Nat} : ∀ q ∈ ([] : List (Nat × zm_F)), zm_Snd M q.1 q.2 := fun _ h => absurd h List.not_mem_nil
theorem zcons2 {M b : Nat} {a : List (Nat × zm_F)} {l : List (Nat × List (Nat × zm_F))} (h : ∀ q ∈ a, zm_Snd M q.1 q.2) (t : ∀ c ∈ l, ∀ q ∈ c.2, zm_Snd M q.1 q.2) : ∀ c ∈ (b, a) :: l, ∀ q ∈ c.2, zm_Snd M q.1 q.2 := List.forall_mem_cons.mpr ⟨h, t⟩
theorem znil2 {M : Nat} : ∀ c ∈ ([] : List (Nat × List (Nat × zm_F))), ∀ q ∈ c.2, zm_Snd M q.1 q.2 := fun _ h => absurd h List.not_mem_nil
theorem zs_none {M pc : Nat} : zm_Snd M pc (fun _ _ _ => none) := by
  refine ⟨fun hh => ?_, fun hh => ?_, fun hh => ?_, ?_⟩
  · cases hh
  · cases hh
  · cases hh
  · intro sp L xs dC dI A p l e R s m args below meth c H locs cells slots Q ws LS ST ls st h pc' ls' st' h' X S hf
    cases hf
theorem zlk {M : Nat} : ∀ {l : List (Nat × zm_F)}, (∀ q ∈ l, zm_Snd M q.1 q.2) → ∀ pc, zm_Snd M pc (zm_lk l pc)
  | [], _, pc => zs_none
  | (q, f) :: l, h, pc => by
    unfold zm_lk
    cases hb : Nat.beq q pc with
    | true =>
      have := Nat.eq_of_beq_eq_true hb
      subst this
      exact h _ List.mem_cons_self
    | false => exact zlk (fun q hq => h q (List.mem_cons_of_mem _ hq)) pc
theorem zlk2 {M : Nat} : ∀ {l : List (Nat × List (Nat × zm_F))}, (∀ c ∈ l, ∀ q ∈ c.2, zm_Snd M q.1 q.2) → ∀ pc, zm_Snd M pc (zm_lk2 l pc)
  | [], _, pc => zs_none
  | (b, l) :: r, h, pc => by
    unfold zm_lk2
    cases hb : Nat.blt pc b with
    | true => exact zlk (h _ List.mem_cons_self) pc
    | false => exact zlk2 (fun c hc => h c (List.mem_cons_of_mem _ hc)) pc
theorem zts_dec {n : Nat} {offs : Array Int} {ts : List Nat} {pc : Nat} (h : (List.range n).all (fun j => match offs[j]? with | some o => decide ((pc : Int) + o = ((ts.getD j 0 : Nat) : Int)) | none => false) = true) : ∀ j, j < n → ∃ o, offs[j]? = some o ∧ (pc : Int) + o = (ts.getD j 0 : Nat) := by
  intro j hj
  have := List.all_eq_true.mp h j (List.mem_range.mpr hj)
  cases ho : offs[j]? with
  | none => rw [ho] at this; cases this
  | some o => rw [ho] at this; exact ⟨o, rfl, of_decide_eq_true this⟩
theorem zT_all (ws : List Cond) (h : ws.all (fun w => decide (w ∈ lw_tbl) && goodWord w) = true) : ∀ w ∈ ws, w ∈ zT := fun w hw => by
  have h1 := List.all_eq_true.mp h w hw
  obtain ⟨h2, h3⟩ := Bool.and_eq_true_iff.mp h1
  exact List.mem_filter.mpr ⟨of_decide_eq_true h2, h3⟩
theorem zin_0 : ∀ w ∈ u_ws RX0 TX0 3, w ∈ zT := zT_all _ (by decide +kernel)
theorem zin_1 : ∀ w ∈ u_ws RX1 TX1 4, w ∈ zT := zT_all _ (by decide +kernel)
theorem zin_2 : ∀ w ∈ u_ws RX2 TX2 2, w ∈ zT := zT_all _ (by decide +kernel)
theorem zin_3 : ∀ w ∈ u_ws RX3 TX3 3, w ∈ zT := zT_all _ (by decide +kernel)
theorem zin_4 : ∀ w ∈ u_ws RX4 TX4 6, w ∈ zT := zT_all _ (by decide +kernel)
theorem zin_5 : ∀ w ∈ u_ws RX5 TX5 6, w ∈ zT := zT_all _ (by decide +kernel)
theorem zin_6 : ∀ w ∈ u_ws RX6 TX6 14, w ∈ zT := zT_all _ (by decide +kernel)
theorem zin_7 : ∀ w ∈ u_ws RX7 TX7 26, w ∈ zT := zT_all _ (by decide +kernel)
theorem zdf_0 : ∀ j, j < 3 → defaultValue (tyX0 j) = vp_V (zm_df 0) j := by decide +kernel
theorem zdf_1 : ∀ j, j < 4 → defaultValue (tyX1 j) = vp_V (zm_df 1) j := by decide +kernel
theorem zdf_2 : ∀ j, j < 2 → defaultValue (tyX2 j) = vp_V (zm_df 2) j := by decide +kernel
theorem zdf_3 : ∀ j, j < 3 → defaultValue (tyX3 j) = vp_V (zm_df 3) j := by decide +kernel
theorem zdf_4 : ∀ j, j < 6 → defaultValue (tyX4 j) = vp_V (zm_df 4) j := by decide +kernel
theorem zdf_5 : ∀ j, j < 6 → defaultValue (tyX5 j) = vp_V (zm_df 5) j := by decide +kernel
theorem zdf_6 : ∀ j, j < 14 → defaultValue (tyX6 j) = vp_V (zm_df 6) j := by decide +kernel
theorem zdf_7 : ∀ j, j < 26 → defaultValue (tyX7 j) = vp_V (zm_df 7) j := by decide +kernel
theorem zvr_0 : ∀ (sp : Nat → Value) (ws : va_W), zm_Vr sp ws (zm_df 0) (zm_df 0) := fun _ _ => by simp [zm_df, zm_Vr, zm_cv]
theorem zvr_1 : ∀ (sp : Nat → Value) (ws : va_W), zm_Vr sp ws (zm_df 1) (zm_df 1) := fun _ _ => by simp [zm_df, zm_Vr, zm_cv]
theorem zvr_2 : ∀ (sp : Nat → Value) (ws : va_W), zm_Vr sp ws (zm_df 2) (zm_df 2) := fun _ _ => by simp [zm_df, zm_Vr, zm_cv]
theorem zvr_3 : ∀ (sp : Nat → Value) (ws : va_W), zm_Vr sp ws (zm_df 3) (zm_df 3) := fun _ _ => by simp [zm_df, zm_Vr, zm_cv]
theorem zvr_4 : ∀ (sp : Nat → Value) (ws : va_W), zm_Vr sp ws (zm_df 4) (zm_df 4) := fun _ _ => by simp [zm_df, zm_Vr, zm_cv]
theorem zvr_5 : ∀ (sp : Nat → Value) (ws : va_W), zm_Vr sp ws (zm_df 5) (zm_df 5) := fun _ _ => by simp [zm_df, zm_Vr, zm_cv]
theorem zvr_6 : ∀ (sp : Nat → Value) (ws : va_W), zm_Vr sp ws (zm_df 6) (zm_df 6) := fun _ _ => by simp [zm_df, zm_Vr, zm_cv]
theorem zvr_7 : ∀ (sp : Nat → Value) (ws : va_W), zm_Vr sp ws (zm_df 7) (zm_df 7) := fun _ _ => by simp [zm_df, zm_Vr, zm_cv]
theorem zao_3 {sp : Nat → Value} {L : Nat} {xs : Nat → Int32} {A : Nat → Prop} {s : State} (h : zm_St sp L xs A s) : va_AO "SnowReign$Figure" s := by
  obtain ⟨b, t0, adK, adV, -, -, -, -, -, o1, -⟩ := h
  exact o1.1
theorem zao_4 {sp : Nat → Value} {L : Nat} {xs : Nat → Int32} {A : Nat → Prop} {s : State} (h : zm_St sp L xs A s) : va_AO "SnowReign$Row" s := by
  obtain ⟨b, t0, adK, adV, -, -, -, -, -, o1, -⟩ := h
  exact o1.2.1
theorem zao_5 {sp : Nat → Value} {L : Nat} {xs : Nat → Int32} {A : Nat → Prop} {s : State} (h : zm_St sp L xs A s) : va_AO "SnowReign$Province" s := by
  obtain ⟨b, t0, adK, adV, -, -, -, -, -, o1, -⟩ := h
  exact o1.2.2.1
theorem zao_6 {sp : Nat → Value} {L : Nat} {xs : Nat → Int32} {A : Nat → Prop} {s : State} (h : zm_St sp L xs A s) : va_AO "SnowReign$Sheet" s := by
  obtain ⟨b, t0, adK, adV, -, -, -, -, -, o1, -⟩ := h
  exact o1.2.2.2.1
theorem zy0 : zm_y 0 = yJ6_bitCount_0f7a4 := rfl
theorem zo0 : (zm_y 0).cls = RJ6 := rfl
theorem zk0 : zm_cc 0 = cJ6_bitCount_0f7a4 := rfl
theorem zy1 : zm_y 1 = yJ7_fill_53178 := rfl
theorem zo1 : (zm_y 1).cls = RJ7 := rfl
theorem zk1 : zm_cc 1 = cJ7_fill_53178 := rfl
theorem zy2 : zm_y 2 = yJ3_checkIndex_8e157 := rfl
theorem zo2 : (zm_y 2).cls = RJ3 := rfl
theorem zk2 : zm_cc 2 = cJ3_checkIndex_8e157 := rfl
theorem zy3 : zm_y 3 = yJ0_charAt_5068e := rfl
theorem zo3 : (zm_y 3).cls = RJ0 := rfl
theorem zk3 : zm_cc 3 = cJ0_charAt_5068e := rfl
theorem zy4 : zm_y 4 = yJ0_checkIndex_df160 := rfl
theorem zo4 : (zm_y 4).cls = RJ0 := rfl
theorem zk4 : zm_cc 4 = cJ0_checkIndex_df160 := rfl
theorem zy5 : zm_y 5 = yJ0_coder_7d493 := rfl
theorem zo5 : (zm_y 5).cls = RJ0 := rfl
theorem zk5 : zm_cc 5 = cJ0_coder_7d493 := rfl
theorem zy6 : zm_y 6 = yJ0_isLatin1_aae02 := rfl
theorem zo6 : (zm_y 6).cls = RJ0 := rfl
theorem zk6 : zm_cc 6 = cJ0_isLatin1_aae02 := rfl
theorem zy7 : zm_y 7 = yJ0_length_8abf5 := rfl
theorem zo7 : (zm_y 7).cls = RJ0 := rfl
theorem zk7 : zm_cc 7 = cJ0_length_8abf5 := rfl
theorem zy8 : zm_y 8 = yJ1_charAt_3b067 := rfl
theorem zo8 : (zm_y 8).cls = RJ1 := rfl
theorem zk8 : zm_cc 8 = cJ1_charAt_3b067 := rfl
theorem zy9 : zm_y 9 = yX0_init := rfl
theorem zo9 : (zm_y 9).cls = RX0 := rfl
theorem zk9 : zm_cc 9 = cX0_init := rfl
theorem zy10 : zm_y 10 = yX0_copyOf := rfl
theorem zo10 : (zm_y 10).cls = RX0 := rfl
theorem zk10 : zm_cc 10 = cX0_copyOf := rfl
theorem zy11 : zm_y 11 = yX0_tell := rfl
theorem zo11 : (zm_y 11).cls = RX0 := rfl
theorem zk11 : zm_cc 11 = cX0_tell := rfl
theorem zy12 : zm_y 12 = yX0_put := rfl
theorem zo12 : (zm_y 12).cls = RX0 := rfl
theorem zk12 : zm_cc 12 = cX0_put := rfl
theorem zy13 : zm_y 13 = yX0_stands := rfl
theorem zo13 : (zm_y 13).cls = RX0 := rfl
theorem zk13 : zm_cc 13 = cX0_stands := rfl
theorem zy14 : zm_y 14 = yX0_halve := rfl
theorem zo14 : (zm_y 14).cls = RX0 := rfl
theorem zk14 : zm_cc 14 = cX0_halve := rfl
theorem zy15 : zm_y 15 = yX0_meltsBy := rfl
theorem zo15 : (zm_y 15).cls = RX0 := rfl
theorem zk15 : zm_cc 15 = cX0_meltsBy := rfl
theorem zy16 : zm_y 16 = yX0_tipsBy := rfl
theorem zo16 : (zm_y 16).cls = RX0 := rfl
theorem zk16 : zm_cc 16 = cX0_tipsBy := rfl
theorem zy17 : zm_y 17 = yX0_pass := rfl
theorem zo17 : (zm_y 17).cls = RX0 := rfl
theorem zk17 : zm_cc 17 = cX0_pass := rfl
theorem zy18 : zm_y 18 = yX2_init := rfl
theorem zo18 : (zm_y 18).cls = RX2 := rfl
theorem zk18 : zm_cc 18 = cX2_init := rfl
theorem zy19 : zm_y 19 = yX2_copyOf := rfl
theorem zo19 : (zm_y 19).cls = RX2 := rfl
theorem zk19 : zm_cc 19 = cX2_copyOf := rfl
theorem zy20 : zm_y 20 = yX2_add := rfl
theorem zo20 : (zm_y 20).cls = RX2 := rfl
theorem zk20 : zm_cc 20 = cX2_add := rfl
theorem zy21 : zm_y 21 = yX2_exchange := rfl
theorem zo21 : (zm_y 21).cls = RX2 := rfl
theorem zk21 : zm_cc 21 = cX2_exchange := rfl
theorem zy22 : zm_y 22 = yX2_reigning := rfl
theorem zo22 : (zm_y 22).cls = RX2 := rfl
theorem zk22 : zm_cc 22 = cX2_reigning := rfl
theorem zy23 : zm_y 23 = yX2_decreed := rfl
theorem zo23 : (zm_y 23).cls = RX2 := rfl
theorem zk23 : zm_cc 23 = cX2_decreed := rfl
theorem zy24 : zm_y 24 = yX2_standingBits := rfl
theorem zo24 : (zm_y 24).cls = RX2 := rfl
theorem zk24 : zm_cc 24 = cX2_standingBits := rfl
theorem zy25 : zm_y 25 = yX2_standingNumber := rfl
theorem zo25 : (zm_y 25).cls = RX2 := rfl
theorem zk25 : zm_cc 25 = cX2_standingNumber := rfl
theorem zy26 : zm_y 26 = yX2_sizeOfAll := rfl
theorem zo26 : (zm_y 26).cls = RX2 := rfl
theorem zk26 : zm_cc 26 = cX2_sizeOfAll := rfl
theorem zy27 : zm_y 27 = yX2_pass := rfl
theorem zo27 : (zm_y 27).cls = RX2 := rfl
theorem zk27 : zm_cc 27 = cX2_pass := rfl
theorem zy28 : zm_y 28 = yX1_init := rfl
theorem zo28 : (zm_y 28).cls = RX1 := rfl
theorem zk28 : zm_cc 28 = cX1_init := rfl
theorem zy29 : zm_y 29 = yX1_renew := rfl
theorem zo29 : (zm_y 29).cls = RX1 := rfl
theorem zk29 : zm_cc 29 = cX1_renew := rfl
theorem zy30 : zm_y 30 = yX1_copyOf := rfl
theorem zo30 : (zm_y 30).cls = RX1 := rfl
theorem zk30 : zm_cc 30 = cX1_copyOf := rfl
theorem zy31 : zm_y 31 = yX1_weekday := rfl
theorem zo31 : (zm_y 31).cls = RX1 := rfl
theorem zk31 : zm_cc 31 = cX1_weekday := rfl
theorem zy32 : zm_y 32 = yX1_pass := rfl
theorem zo32 : (zm_y 32).cls = RX1 := rfl
theorem zk32 : zm_cc 32 = cX1_pass := rfl
theorem zy33 : zm_y 33 = yX1_run := rfl
theorem zo33 : (zm_y 33).cls = RX1 := rfl
theorem zk33 : zm_cc 33 = cX1_run := rfl
theorem zy34 : zm_y 34 = yX1_unruledDays := rfl
theorem zo34 : (zm_y 34).cls = RX1 := rfl
theorem zk34 : zm_cc 34 = cX1_unruledDays := rfl
theorem zy35 : zm_y 35 = yX1_daysRuledBy := rfl
theorem zo35 : (zm_y 35).cls = RX1 := rfl
theorem zk35 : zm_cc 35 = cX1_daysRuledBy := rfl
theorem zy36 : zm_y 36 = yX1_rulers := rfl
theorem zo36 : (zm_y 36).cls = RX1 := rfl
theorem zk36 : zm_cc 36 = cX1_rulers := rfl
theorem zy37 : zm_y 37 = yX1_changesOfRuler := rfl
theorem zo37 : (zm_y 37).cls = RX1 := rfl
theorem zk37 : zm_cc 37 = cX1_changesOfRuler := rfl
theorem zy38 : zm_y 38 = yX1_foresee := rfl
theorem zo38 : (zm_y 38).cls = RX1 := rfl
theorem zk38 : zm_cc 38 = cX1_foresee := rfl
theorem zy39 : zm_y 39 = yX4_init := rfl
theorem zo39 : (zm_y 39).cls = RX4 := rfl
theorem zk39 : zm_cc 39 = cX4_init := rfl
theorem zy40 : zm_y 40 = yX4_append := rfl
theorem zo40 : (zm_y 40).cls = RX4 := rfl
theorem zk40 : zm_cc 40 = cX4_append := rfl
theorem zy41 : zm_y 41 = yX4_rewind := rfl
theorem zo41 : (zm_y 41).cls = RX4 := rfl
theorem zk41 : zm_cc 41 = cX4_rewind := rfl
theorem zy42 : zm_y 42 = yX4_advance := rfl
theorem zo42 : (zm_y 42).cls = RX4 := rfl
theorem zk42 : zm_cc 42 = cX4_advance := rfl
theorem zy43 : zm_y 43 = yX4_isName := rfl
theorem zo43 : (zm_y 43).cls = RX4 := rfl
theorem zk43 : zm_cc 43 = cX4_isName := rfl
theorem zy44 : zm_y 44 = yX4_weigh := rfl
theorem zo44 : (zm_y 44).cls = RX4 := rfl
theorem zk44 : zm_cc 44 = cX4_weigh := rfl
theorem zy45 : zm_y 45 = yX4_sortOf := rfl
theorem zo45 : (zm_y 45).cls = RX4 := rfl
theorem zk45 : zm_cc 45 = cX4_sortOf := rfl
theorem zy46 : zm_y 46 = yX5_init := rfl
theorem zo46 : (zm_y 46).cls = RX5 := rfl
theorem zk46 : zm_cc 46 = cX5_init := rfl
theorem zy47 : zm_y 47 = yX5_readAll := rfl
theorem zo47 : (zm_y 47).cls = RX5 := rfl
theorem zk47 : zm_cc 47 = cX5_readAll := rfl
theorem zy48 : zm_y 48 = yX5_readLine := rfl
theorem zo48 : (zm_y 48).cls = RX5 := rfl
theorem zk48 : zm_cc 48 = cX5_readLine := rfl
theorem zy49 : zm_y 49 = yX5_kindNamed := rfl
theorem zo49 : (zm_y 49).cls = RX5 := rfl
theorem zk49 : zm_cc 49 = cX5_kindNamed := rfl
theorem zy50 : zm_y 50 = yX5_readFigure := rfl
theorem zo50 : (zm_y 50).cls = RX5 := rfl
theorem zk50 : zm_cc 50 = cX5_readFigure := rfl
theorem zy51 : zm_y 51 = yX5_readDay := rfl
theorem zo51 : (zm_y 51).cls = RX5 := rfl
theorem zk51 : zm_cc 51 = cX5_readDay := rfl
theorem zy52 : zm_y 52 = yX5_takesNumber := rfl
theorem zo52 : (zm_y 52).cls = RX5 := rfl
theorem zk52 : zm_cc 52 = cX5_takesNumber := rfl
theorem zy53 : zm_y 53 = yX5_takesSign := rfl
theorem zo53 : (zm_y 53).cls = RX5 := rfl
theorem zk53 : zm_cc 53 = cX5_takesSign := rfl
theorem zy54 : zm_y 54 = yX5_refuseToken := rfl
theorem zo54 : (zm_y 54).cls = RX5 := rfl
theorem zk54 : zm_cc 54 = cX5_refuseToken := rfl
theorem zy55 : zm_y 55 = yX5_refuse := rfl
theorem zo55 : (zm_y 55).cls = RX5 := rfl
theorem zk55 : zm_cc 55 = cX5_refuse := rfl
theorem zy56 : zm_y 56 = yX3_init := rfl
theorem zo56 : (zm_y 56).cls = RX3 := rfl
theorem zk56 : zm_cc 56 = cX3_init := rfl
theorem zy57 : zm_y 57 = yX3_renew := rfl
theorem zo57 : (zm_y 57).cls = RX3 := rfl
theorem zk57 : zm_cc 57 = cX3_renew := rfl
theorem zy58 : zm_y 58 = yX3_put := rfl
theorem zo58 : (zm_y 58).cls = RX3 := rfl
theorem zk58 : zm_cc 58 = cX3_put := rfl
theorem zy59 : zm_y 59 = yX3_faultAt := rfl
theorem zo59 : (zm_y 59).cls = RX3 := rfl
theorem zk59 : zm_cc 59 = cX3_faultAt := rfl
theorem zy60 : zm_y 60 = yX3_faultOfPair := rfl
theorem zo60 : (zm_y 60).cls = RX3 := rfl
theorem zk60 : zm_cc 60 = cX3_faultOfPair := rfl
theorem zy61 : zm_y 61 = yX6_init := rfl
theorem zo61 : (zm_y 61).cls = RX6 := rfl
theorem zk61 : zm_cc 61 = cX6_init := rfl
theorem zy62 : zm_y 62 = yX6_feed := rfl
theorem zo62 : (zm_y 62).cls = RX6 := rfl
theorem zk62 : zm_cc 62 = cX6_feed := rfl
theorem zy63 : zm_y 63 = yX6_end := rfl
theorem zo63 : (zm_y 63).cls = RX6 := rfl
theorem zk63 : zm_cc 63 = cX6_end := rfl
theorem zy64 : zm_y 64 = yX6_text := rfl
theorem zo64 : (zm_y 64).cls = RX6 := rfl
theorem zk64 : zm_cc 64 = cX6_text := rfl
theorem zy65 : zm_y 65 = yX6_fault := rfl
theorem zo65 : (zm_y 65).cls = RX6 := rfl
theorem zk65 : zm_cc 65 = cX6_fault := rfl
theorem zy66 : zm_y 66 = yX6_rule := rfl
theorem zo66 : (zm_y 66).cls = RX6 := rfl
theorem zk66 : zm_cc 66 = cX6_rule := rfl
theorem zy67 : zm_y 67 = yX6_figure := rfl
theorem zo67 : (zm_y 67).cls = RX6 := rfl
theorem zk67 : zm_cc 67 = cX6_figure := rfl
theorem zy68 : zm_y 68 = yX6_week := rfl
theorem zo68 : (zm_y 68).cls = RX6 := rfl
theorem zk68 : zm_cc 68 = cX6_week := rfl
theorem zy69 : zm_y 69 = yX6_alter := rfl
theorem zo69 : (zm_y 69).cls = RX6 := rfl
theorem zk69 : zm_cc 69 = cX6_alter := rfl
theorem zy70 : zm_y 70 = yX6_set := rfl
theorem zo70 : (zm_y 70).cls = RX6 := rfl
theorem zk70 : zm_cc 70 = cX6_set := rfl
theorem zy71 : zm_y 71 = yX6_roll := rfl
theorem zo71 : (zm_y 71).cls = RX6 := rfl
theorem zk71 : zm_cc 71 = cX6_roll := rfl
theorem zy72 : zm_y 72 = yX6_ice := rfl
theorem zo72 : (zm_y 72).cls = RX6 := rfl
theorem zk72 : zm_cc 72 = cX6_ice := rfl
theorem zy73 : zm_y 73 = yX6_salt := rfl
theorem zo73 : (zm_y 73).cls = RX6 := rfl
theorem zk73 : zm_cc 73 = cX6_salt := rfl
theorem zy74 : zm_y 74 = yX6_clear := rfl
theorem zo74 : (zm_y 74).cls = RX6 := rfl
theorem zk74 : zm_cc 74 = cX6_clear := rfl
theorem zy75 : zm_y 75 = yX6_days := rfl
theorem zo75 : (zm_y 75).cls = RX6 := rfl
theorem zk75 : zm_cc 75 = cX6_days := rfl
theorem zy76 : zm_y 76 = yX6_runs := rfl
theorem zo76 : (zm_y 76).cls = RX6 := rfl
theorem zk76 : zm_cc 76 = cX6_runs := rfl
theorem zy77 : zm_y 77 = yX6_ahead := rfl
theorem zo77 : (zm_y 77).cls = RX6 := rfl
theorem zk77 : zm_cc 77 = cX6_ahead := rfl
theorem zy78 : zm_y 78 = yX6_falls := rfl
theorem zo78 : (zm_y 78).cls = RX6 := rfl
theorem zk78 : zm_cc 78 = cX6_falls := rfl
theorem zy79 : zm_y 79 = yX6_reign := rfl
theorem zo79 : (zm_y 79).cls = RX6 := rfl
theorem zk79 : zm_cc 79 = cX6_reign := rfl
theorem zy80 : zm_y 80 = yX6_decree := rfl
theorem zo80 : (zm_y 80).cls = RX6 := rfl
theorem zk80 : zm_cc 80 = cX6_decree := rfl
theorem zy81 : zm_y 81 = yX6_coup := rfl
theorem zo81 : (zm_y 81).cls = RX6 := rfl
theorem zk81 : zm_cc 81 = cX6_coup := rfl
theorem zy82 : zm_y 82 = yX6_need := rfl
theorem zo82 : (zm_y 82).cls = RX6 := rfl
theorem zk82 : zm_cc 82 = cX6_need := rfl
theorem zy83 : zm_y 83 = yX6_bucket := rfl
theorem zo83 : (zm_y 83).cls = RX6 := rfl
theorem zk83 : zm_cc 83 = cX6_bucket := rfl
theorem zy84 : zm_y 84 = yX6_swap := rfl
theorem zo84 : (zm_y 84).cls = RX6 := rfl
theorem zk84 : zm_cc 84 = cX6_swap := rfl
theorem zy85 : zm_y 85 = yX6_lee := rfl
theorem zo85 : (zm_y 85).cls = RX6 := rfl
theorem zk85 : zm_cc 85 = cX6_lee := rfl
theorem zy86 : zm_y 86 = yX6_kind := rfl
theorem zo86 : (zm_y 86).cls = RX6 := rfl
theorem zk86 : zm_cc 86 = cX6_kind := rfl
theorem zy87 : zm_y 87 = yX6_face := rfl
theorem zo87 : (zm_y 87).cls = RX6 := rfl
theorem zk87 : zm_cc 87 = cX6_face := rfl
theorem zy88 : zm_y 88 = yX6_thaw := rfl
theorem zo88 : (zm_y 88).cls = RX6 := rfl
theorem zk88 : zm_cc 88 = cX6_thaw := rfl
theorem zy89 : zm_y 89 = yX6_luck := rfl
theorem zo89 : (zm_y 89).cls = RX6 := rfl
theorem zk89 : zm_cc 89 = cX6_luck := rfl
theorem zy90 : zm_y 90 = yX6_mean := rfl
theorem zo90 : (zm_y 90).cls = RX6 := rfl
theorem zk90 : zm_cc 90 = cX6_mean := rfl
theorem zy91 : zm_y 91 = yX6_see := rfl
theorem zo91 : (zm_y 91).cls = RX6 := rfl
theorem zk91 : zm_cc 91 = cX6_see := rfl
theorem zy92 : zm_y 92 = yX6_forget := rfl
theorem zo92 : (zm_y 92).cls = RX6 := rfl
theorem zk92 : zm_cc 92 = cX6_forget := rfl
theorem zy93 : zm_y 93 = yX6_kinds := rfl
theorem zo93 : (zm_y 93).cls = RX6 := rfl
theorem zk93 : zm_cc 93 = cX6_kinds := rfl
theorem zy94 : zm_y 94 = yX6_sizes := rfl
theorem zo94 : (zm_y 94).cls = RX6 := rfl
theorem zk94 : zm_cc 94 = cX6_sizes := rfl
theorem zy95 : zm_y 95 = yX6_leans := rfl
theorem zo95 : (zm_y 95).cls = RX6 := rfl
theorem zk95 : zm_cc 95 = cX6_leans := rfl
theorem zy96 : zm_y 96 = yX6_ask := rfl
theorem zo96 : (zm_y 96).cls = RX6 := rfl
theorem zk96 : zm_cc 96 = cX6_ask := rfl
theorem zy97 : zm_y 97 = yX6_drift := rfl
theorem zo97 : (zm_y 97).cls = RX6 := rfl
theorem zk97 : zm_cc 97 = cX6_drift := rfl
theorem zy98 : zm_y 98 = yX6_keep := rfl
theorem zo98 : (zm_y 98).cls = RX6 := rfl
theorem zk98 : zm_cc 98 = cX6_keep := rfl
theorem zy99 : zm_y 99 = yX6_back := rfl
theorem zo99 : (zm_y 99).cls = RX6 := rfl
theorem zk99 : zm_cc 99 = cX6_back := rfl
theorem zy100 : zm_y 100 = yX6_sheet := rfl
theorem zo100 : (zm_y 100).cls = RX6 := rfl
theorem zk100 : zm_cc 100 = cX6_sheet := rfl
theorem zy101 : zm_y 101 = yX6_lay := rfl
theorem zo101 : (zm_y 101).cls = RX6 := rfl
theorem zk101 : zm_cc 101 = cX6_lay := rfl
theorem zy102 : zm_y 102 = yX6_read := rfl
theorem zo102 : (zm_y 102).cls = RX6 := rfl
theorem zk102 : zm_cc 102 = cX6_read := rfl
theorem zy103 : zm_y 103 = yX6_torn := rfl
theorem zo103 : (zm_y 103).cls = RX6 := rfl
theorem zk103 : zm_cc 103 = cX6_torn := rfl
theorem zy104 : zm_y 104 = yX6_count := rfl
theorem zo104 : (zm_y 104).cls = RX6 := rfl
theorem zk104 : zm_cc 104 = cX6_count := rfl
theorem zy105 : zm_y 105 = yX6_within := rfl
theorem zo105 : (zm_y 105).cls = RX6 := rfl
theorem zk105 : zm_cc 105 = cX6_within := rfl
theorem zy106 : zm_y 106 = yX6_isFigure := rfl
theorem zo106 : (zm_y 106).cls = RX6 := rfl
theorem zk106 : zm_cc 106 = cX6_isFigure := rfl
theorem zy107 : zm_y 107 = yX6_sum := rfl
theorem zo107 : (zm_y 107).cls = RX6 := rfl
theorem zk107 : zm_cc 107 = cX6_sum := rfl
theorem zy108 : zm_y 108 = yX6_chosen := rfl
theorem zo108 : (zm_y 108).cls = RX6 := rfl
theorem zk108 : zm_cc 108 = cX6_chosen := rfl
theorem zy109 : zm_y 109 = yX6_fraction := rfl
theorem zo109 : (zm_y 109).cls = RX6 := rfl
theorem zk109 : zm_cc 109 = cX6_fraction := rfl
theorem zy110 : zm_y 110 = yX6_rollUp := rfl
theorem zo110 : (zm_y 110).cls = RX6 := rfl
theorem zk110 : zm_cc 110 = cX6_rollUp := rfl
theorem zy111 : zm_y 111 = yX6_daysTillProbeFalls := rfl
theorem zo111 : (zm_y 111).cls = RX6 := rfl
theorem zk111 : zm_cc 111 = cX6_daysTillProbeFalls := rfl
theorem zy112 : zm_y 112 = yX6_longest := rfl
theorem zo112 : (zm_y 112).cls = RX6 := rfl
theorem zk112 : zm_cc 112 = cX6_longest := rfl
theorem zy113 : zm_y 113 = yX6_afterSalt := rfl
theorem zo113 : (zm_y 113).cls = RX6 := rfl
theorem zk113 : zm_cc 113 = cX6_afterSalt := rfl
theorem zy114 : zm_y 114 = yX6_weighed := rfl
theorem zo114 : (zm_y 114).cls = RX6 := rfl
theorem zk114 : zm_cc 114 = cX6_weighed := rfl
theorem zy115 : zm_y 115 = yX6_passSalted := rfl
theorem zo115 : (zm_y 115).cls = RX6 := rfl
theorem zk115 : zm_cc 115 = cX6_passSalted := rfl
theorem zy116 : zm_y 116 = yX6_fittingBits := rfl
theorem zo116 : (zm_y 116).cls = RX6 := rfl
theorem zk116 : zm_cc 116 = cX6_fittingBits := rfl
theorem zy117 : zm_y 117 = yX6_wouldFit := rfl
theorem zo117 : (zm_y 117).cls = RX6 := rfl
theorem zk117 : zm_cc 117 = cX6_wouldFit := rfl
theorem zy118 : zm_y 118 = yX6_lastSeen := rfl
theorem zo118 : (zm_y 118).cls = RX6 := rfl
theorem zk118 : zm_cc 118 = cX6_lastSeen := rfl
theorem zy119 : zm_y 119 = yX6_isAsSeen := rfl
theorem zo119 : (zm_y 119).cls = RX6 := rfl
theorem zk119 : zm_cc 119 = cX6_isAsSeen := rfl
theorem zy120 : zm_y 120 = yX6_foreseeByKind := rfl
theorem zo120 : (zm_y 120).cls = RX6 := rfl
theorem zk120 : zm_cc 120 = cX6_foreseeByKind := rfl
theorem zy121 : zm_y 121 = yX6_mostAlike := rfl
theorem zo121 : (zm_y 121).cls = RX6 := rfl
theorem zk121 : zm_cc 121 = cX6_mostAlike := rfl
theorem zy122 : zm_y 122 = yX7_init := rfl
theorem zo122 : (zm_y 122).cls = RX7 := rfl
theorem zk122 : zm_cc 122 = cX7_init := rfl
theorem zy123 : zm_y 123 = yX7_in := rfl
theorem zo123 : (zm_y 123).cls = RX7 := rfl
theorem zk123 : zm_cc 123 = cX7_in := rfl
theorem zy124 : zm_y 124 = yX7_feed := rfl
theorem zo124 : (zm_y 124).cls = RX7 := rfl
theorem zk124 : zm_cc 124 = cX7_feed := rfl
theorem zy125 : zm_y 125 = yX7_end := rfl
theorem zo125 : (zm_y 125).cls = RX7 := rfl
theorem zk125 : zm_cc 125 = cX7_end := rfl
theorem zy126 : zm_y 126 = yX7_byteAt := rfl
theorem zo126 : (zm_y 126).cls = RX7 := rfl
theorem zk126 : zm_cc 126 = cX7_byteAt := rfl
theorem zy127 : zm_y 127 = yX7_fails := rfl
theorem zo127 : (zm_y 127).cls = RX7 := rfl
theorem zk127 : zm_cc 127 = cX7_fails := rfl
theorem zy128 : zm_y 128 = yX7_nameHere := rfl
theorem zo128 : (zm_y 128).cls = RX7 := rfl
theorem zk128 : zm_cc 128 = cX7_nameHere := rfl
theorem zy129 : zm_y 129 = yX7_step := rfl
theorem zo129 : (zm_y 129).cls = RX7 := rfl
theorem zk129 : zm_cc 129 = cX7_step := rfl
theorem zy130 : zm_y 130 = yX7_number := rfl
theorem zo130 : (zm_y 130).cls = RX7 := rfl
theorem zk130 : zm_cc 130 = cX7_number := rfl
theorem zy131 : zm_y 131 = yX7_readMore := rfl
theorem zo131 : (zm_y 131).cls = RX7 := rfl
theorem zk131 : zm_cc 131 = cX7_readMore := rfl
theorem zy132 : zm_y 132 = yX7_readLine := rfl
theorem zo132 : (zm_y 132).cls = RX7 := rfl
theorem zk132 : zm_cc 132 = cX7_readLine := rfl
theorem zy133 : zm_y 133 = yX7_text := rfl
theorem zo133 : (zm_y 133).cls = RX7 := rfl
theorem zk133 : zm_cc 133 = cX7_text := rfl
theorem zy134 : zm_y 134 = yX7_fault := rfl
theorem zo134 : (zm_y 134).cls = RX7 := rfl
theorem zk134 : zm_cc 134 = cX7_fault := rfl
theorem zy135 : zm_y 135 = yX7_isFigure := rfl
theorem zo135 : (zm_y 135).cls = RX7 := rfl
theorem zk135 : zm_cc 135 = cX7_isFigure := rfl
theorem zy136 : zm_y 136 = yX7_warmOn := rfl
theorem zo136 : (zm_y 136).cls = RX7 := rfl
theorem zk136 : zm_cc 136 = cX7_warmOn := rfl
theorem zy137 : zm_y 137 = yX7_windOn := rfl
theorem zo137 : (zm_y 137).cls = RX7 := rfl
theorem zk137 : zm_cc 137 = cX7_windOn := rfl
theorem zy138 : zm_y 138 = yX7_meltsOn := rfl
theorem zo138 : (zm_y 138).cls = RX7 := rfl
theorem zk138 : zm_cc 138 = cX7_meltsOn := rfl
theorem zy139 : zm_y 139 = yX7_tipsOn := rfl
theorem zo139 : (zm_y 139).cls = RX7 := rfl
theorem zk139 : zm_cc 139 = cX7_tipsOn := rfl
theorem zy140 : zm_y 140 = yX7_dayOn := rfl
theorem zo140 : (zm_y 140).cls = RX7 := rfl
theorem zk140 : zm_cc 140 = cX7_dayOn := rfl
theorem zy141 : zm_y 141 = yX7_goesOn := rfl
theorem zo141 : (zm_y 141).cls = RX7 := rfl
theorem zk141 : zm_cc 141 = cX7_goesOn := rfl
theorem zy142 : zm_y 142 = yX7_standOn := rfl
theorem zo142 : (zm_y 142).cls = RX7 := rfl
theorem zk142 : zm_cc 142 = cX7_standOn := rfl
theorem zy143 : zm_y 143 = yX7_reignsOn := rfl
theorem zo143 : (zm_y 143).cls = RX7 := rfl
theorem zk143 : zm_cc 143 = cX7_reignsOn := rfl
theorem zy144 : zm_y 144 = yX7_decreeOn := rfl
theorem zo144 : (zm_y 144).cls = RX7 := rfl
theorem zk144 : zm_cc 144 = cX7_decreeOn := rfl
theorem zy145 : zm_y 145 = yX7_sizeOn := rfl
theorem zo145 : (zm_y 145).cls = RX7 := rfl
theorem zk145 : zm_cc 145 = cX7_sizeOn := rfl
theorem zy146 : zm_y 146 = yX7_bitsOf := rfl
theorem zo146 : (zm_y 146).cls = RX7 := rfl
theorem zk146 : zm_cc 146 = cX7_bitsOf := rfl
theorem zy147 : zm_y 147 = yX7_rule := rfl
theorem zo147 : (zm_y 147).cls = RX7 := rfl
theorem zk147 : zm_cc 147 = cX7_rule := rfl
theorem zy148 : zm_y 148 = yX7_figure := rfl
theorem zo148 : (zm_y 148).cls = RX7 := rfl
theorem zk148 : zm_cc 148 = cX7_figure := rfl
theorem zy149 : zm_y 149 = yX7_week := rfl
theorem zo149 : (zm_y 149).cls = RX7 := rfl
theorem zk149 : zm_cc 149 = cX7_week := rfl
theorem zy150 : zm_y 150 = yX7_puts := rfl
theorem zo150 : (zm_y 150).cls = RX7 := rfl
theorem zk150 : zm_cc 150 = cX7_puts := rfl
theorem zy151 : zm_y 151 = yX7_alter := rfl
theorem zo151 : (zm_y 151).cls = RX7 := rfl
theorem zk151 : zm_cc 151 = cX7_alter := rfl
theorem zy152 : zm_y 152 = yX7_set := rfl
theorem zo152 : (zm_y 152).cls = RX7 := rfl
theorem zk152 : zm_cc 152 = cX7_set := rfl
theorem zy153 : zm_y 153 = yX7_rolls := rfl
theorem zo153 : (zm_y 153).cls = RX7 := rfl
theorem zk153 : zm_cc 153 = cX7_rolls := rfl
theorem zy154 : zm_y 154 = yX7_roll := rfl
theorem zo154 : (zm_y 154).cls = RX7 := rfl
theorem zk154 : zm_cc 154 = cX7_roll := rfl
theorem zy155 : zm_y 155 = yX7_stands := rfl
theorem zo155 : (zm_y 155).cls = RX7 := rfl
theorem zk155 : zm_cc 155 = cX7_stands := rfl
theorem zy156 : zm_y 156 = yX7_ice := rfl
theorem zo156 : (zm_y 156).cls = RX7 := rfl
theorem zk156 : zm_cc 156 = cX7_ice := rfl
theorem zy157 : zm_y 157 = yX7_salt := rfl
theorem zo157 : (zm_y 157).cls = RX7 := rfl
theorem zk157 : zm_cc 157 = cX7_salt := rfl
theorem zy158 : zm_y 158 = yX7_clear := rfl
theorem zo158 : (zm_y 158).cls = RX7 := rfl
theorem zk158 : zm_cc 158 = cX7_clear := rfl
theorem zy159 : zm_y 159 = yX7_days := rfl
theorem zo159 : (zm_y 159).cls = RX7 := rfl
theorem zk159 : zm_cc 159 = cX7_days := rfl
theorem zy160 : zm_y 160 = yX7_copies := rfl
theorem zo160 : (zm_y 160).cls = RX7 := rfl
theorem zk160 : zm_cc 160 = cX7_copies := rfl
theorem zy161 : zm_y 161 = yX7_daysGo := rfl
theorem zo161 : (zm_y 161).cls = RX7 := rfl
theorem zk161 : zm_cc 161 = cX7_daysGo := rfl
theorem zy162 : zm_y 162 = yX7_runs := rfl
theorem zo162 : (zm_y 162).cls = RX7 := rfl
theorem zk162 : zm_cc 162 = cX7_runs := rfl
theorem zy163 : zm_y 163 = yX7_ahead := rfl
theorem zo163 : (zm_y 163).cls = RX7 := rfl
theorem zk163 : zm_cc 163 = cX7_ahead := rfl
theorem zy164 : zm_y 164 = yX7_fallsOn := rfl
theorem zo164 : (zm_y 164).cls = RX7 := rfl
theorem zk164 : zm_cc 164 = cX7_fallsOn := rfl
theorem zy165 : zm_y 165 = yX7_falls := rfl
theorem zo165 : (zm_y 165).cls = RX7 := rfl
theorem zk165 : zm_cc 165 = cX7_falls := rfl
theorem zy166 : zm_y 166 = yX7_lowest := rfl
theorem zo166 : (zm_y 166).cls = RX7 := rfl
theorem zk166 : zm_cc 166 = cX7_lowest := rfl
theorem zy167 : zm_y 167 = yX7_reign := rfl
theorem zo167 : (zm_y 167).cls = RX7 := rfl
theorem zk167 : zm_cc 167 = cX7_reign := rfl
theorem zy168 : zm_y 168 = yX7_decree := rfl
theorem zo168 : (zm_y 168).cls = RX7 := rfl
theorem zk168 : zm_cc 168 = cX7_decree := rfl
theorem zy169 : zm_y 169 = yX7_coup := rfl
theorem zo169 : (zm_y 169).cls = RX7 := rfl
theorem zk169 : zm_cc 169 = cX7_coup := rfl
theorem zy170 : zm_y 170 = yX7_need := rfl
theorem zo170 : (zm_y 170).cls = RX7 := rfl
theorem zk170 : zm_cc 170 = cX7_need := rfl
theorem zy171 : zm_y 171 = yX7_bucket := rfl
theorem zo171 : (zm_y 171).cls = RX7 := rfl
theorem zk171 : zm_cc 171 = cX7_bucket := rfl
theorem zy172 : zm_y 172 = yX7_swap := rfl
theorem zo172 : (zm_y 172).cls = RX7 := rfl
theorem zk172 : zm_cc 172 = cX7_swap := rfl
theorem zy173 : zm_y 173 = yX7_lee := rfl
theorem zo173 : (zm_y 173).cls = RX7 := rfl
theorem zk173 : zm_cc 173 = cX7_lee := rfl
theorem zy174 : zm_y 174 = yX7_lastsOn := rfl
theorem zo174 : (zm_y 174).cls = RX7 := rfl
theorem zk174 : zm_cc 174 = cX7_lastsOn := rfl
theorem zy175 : zm_y 175 = yX7_kind := rfl
theorem zo175 : (zm_y 175).cls = RX7 := rfl
theorem zk175 : zm_cc 175 = cX7_kind := rfl
theorem zy176 : zm_y 176 = yX7_face := rfl
theorem zo176 : (zm_y 176).cls = RX7 := rfl
theorem zk176 : zm_cc 176 = cX7_face := rfl
theorem zy177 : zm_y 177 = yX7_thaw := rfl
theorem zo177 : (zm_y 177).cls = RX7 := rfl
theorem zk177 : zm_cc 177 = cX7_thaw := rfl
theorem zy178 : zm_y 178 = yX7_bySalt := rfl
theorem zo178 : (zm_y 178).cls = RX7 := rfl
theorem zk178 : zm_cc 178 = cX7_bySalt := rfl
theorem zy179 : zm_y 179 = yX7_luck := rfl
theorem zo179 : (zm_y 179).cls = RX7 := rfl
theorem zk179 : zm_cc 179 = cX7_luck := rfl
theorem zy180 : zm_y 180 = yX7_mean := rfl
theorem zo180 : (zm_y 180).cls = RX7 := rfl
theorem zk180 : zm_cc 180 = cX7_mean := rfl
theorem zy181 : zm_y 181 = yX7_see := rfl
theorem zo181 : (zm_y 181).cls = RX7 := rfl
theorem zk181 : zm_cc 181 = cX7_see := rfl
theorem zy182 : zm_y 182 = yX7_forget := rfl
theorem zo182 : (zm_y 182).cls = RX7 := rfl
theorem zk182 : zm_cc 182 = cX7_forget := rfl
theorem zy183 : zm_y 183 = yX7_isAsSeen := rfl
theorem zo183 : (zm_y 183).cls = RX7 := rfl
theorem zk183 : zm_cc 183 = cX7_isAsSeen := rfl
theorem zy184 : zm_y 184 = yX7_kindsOf := rfl
theorem zo184 : (zm_y 184).cls = RX7 := rfl
theorem zk184 : zm_cc 184 = cX7_kindsOf := rfl
theorem zy185 : zm_y 185 = yX7_kinds := rfl
theorem zo185 : (zm_y 185).cls = RX7 := rfl
theorem zk185 : zm_cc 185 = cX7_kinds := rfl
theorem zy186 : zm_y 186 = yX7_sizes := rfl
theorem zo186 : (zm_y 186).cls = RX7 := rfl
theorem zk186 : zm_cc 186 = cX7_sizes := rfl
theorem zy187 : zm_y 187 = yX7_leans := rfl
theorem zo187 : (zm_y 187).cls = RX7 := rfl
theorem zk187 : zm_cc 187 = cX7_leans := rfl
theorem zy188 : zm_y 188 = yX7_ask := rfl
theorem zo188 : (zm_y 188).cls = RX7 := rfl
theorem zk188 : zm_cc 188 = cX7_ask := rfl
theorem zy189 : zm_y 189 = yX7_drift := rfl
theorem zo189 : (zm_y 189).cls = RX7 := rfl
theorem zk189 : zm_cc 189 = cX7_drift := rfl
theorem zy190 : zm_y 190 = yX7_keep := rfl
theorem zo190 : (zm_y 190).cls = RX7 := rfl
theorem zk190 : zm_cc 190 = cX7_keep := rfl
theorem zy191 : zm_y 191 = yX7_back := rfl
theorem zo191 : (zm_y 191).cls = RX7 := rfl
theorem zk191 : zm_cc 191 = cX7_back := rfl
theorem zy192 : zm_y 192 = yX7_sheet := rfl
theorem zo192 : (zm_y 192).cls = RX7 := rfl
theorem zk192 : zm_cc 192 = cX7_sheet := rfl
theorem zy193 : zm_y 193 = yX7_lay := rfl
theorem zo193 : (zm_y 193).cls = RX7 := rfl
theorem zk193 : zm_cc 193 = cX7_lay := rfl
theorem zy194 : zm_y 194 = yX7_read := rfl
theorem zo194 : (zm_y 194).cls = RX7 := rfl
theorem zk194 : zm_cc 194 = cX7_read := rfl
theorem zy195 : zm_y 195 = yX7_torn := rfl
theorem zo195 : (zm_y 195).cls = RX7 := rfl
theorem zk195 : zm_cc 195 = cX7_torn := rfl
theorem zy196 : zm_y 196 = yX7_count := rfl
theorem zo196 : (zm_y 196).cls = RX7 := rfl
theorem zk196 : zm_cc 196 = cX7_count := rfl
theorem zy197 : zm_y 197 = yL_law := rfl
theorem zo197 : (zm_y 197).cls = RL := rfl
theorem zk197 : zm_cc 197 = cL_law := rfl
theorem zWd0 : zm_Wd 0 1 := ⟨zw_563, zw_64, ⟨by decide +kernel, by decide +kernel, by decide +kernel⟩, by decide +kernel, by decide +kernel⟩
theorem zWd1 : zm_Wd 1 2 := ⟨zw_120, zw_53, ⟨by decide +kernel, by decide +kernel, by decide +kernel⟩, by decide +kernel, by decide +kernel⟩
theorem zWd2 : zm_Wd 2 3 := ⟨zw_359, zw_60, ⟨by decide +kernel, by decide +kernel, by decide +kernel⟩, by decide +kernel, by decide +kernel⟩
theorem zWd3 : zm_Wd 3 1 := ⟨zw_344, zw_58, ⟨by decide +kernel, by decide +kernel, by decide +kernel⟩, by decide +kernel, by decide +kernel⟩
theorem zWd4 : zm_Wd 4 2 := ⟨zw_354, zw_58, ⟨by decide +kernel, by decide +kernel, by decide +kernel⟩, by decide +kernel, by decide +kernel⟩
theorem zWd5 : zm_Wd 5 0 := ⟨zw_338, zw_58, ⟨by decide +kernel, by decide +kernel, by decide +kernel⟩, by decide +kernel, by decide +kernel⟩
theorem zWd6 : zm_Wd 6 0 := ⟨zw_348, zw_58, ⟨by decide +kernel, by decide +kernel, by decide +kernel⟩, by decide +kernel, by decide +kernel⟩
theorem zWd7 : zm_Wd 7 0 := ⟨zw_334, zw_58, ⟨by decide +kernel, by decide +kernel, by decide +kernel⟩, by decide +kernel, by decide +kernel⟩
theorem zWd8 : zm_Wd 8 2 := ⟨zw_351, zw_59, ⟨by decide +kernel, by decide +kernel, by decide +kernel⟩, by decide +kernel, by decide +kernel⟩
theorem zWd9 : zm_Wd 9 0 := ⟨zw_90, zw_52, ⟨by decide +kernel, by decide +kernel, by decide +kernel⟩, by decide +kernel, by decide +kernel⟩
theorem zWd10 : zm_Wd 10 1 := ⟨zw_422, zw_52, ⟨by decide +kernel, by decide +kernel, by decide +kernel⟩, by decide +kernel, by decide +kernel⟩
theorem zWd11 : zm_Wd 11 1 := ⟨zw_478, zw_52, ⟨by decide +kernel, by decide +kernel, by decide +kernel⟩, by decide +kernel, by decide +kernel⟩
theorem zWd12 : zm_Wd 12 2 := ⟨zw_492, zw_52, ⟨by decide +kernel, by decide +kernel, by decide +kernel⟩, by decide +kernel, by decide +kernel⟩
theorem zWd13 : zm_Wd 13 0 := ⟨zw_441, zw_52, ⟨by decide +kernel, by decide +kernel, by decide +kernel⟩, by decide +kernel, by decide +kernel⟩
theorem zWd14 : zm_Wd 14 0 := ⟨zw_518, zw_52, ⟨by decide +kernel, by decide +kernel, by decide +kernel⟩, by decide +kernel, by decide +kernel⟩
theorem zWd15 : zm_Wd 15 1 := ⟨zw_470, zw_52, ⟨by decide +kernel, by decide +kernel, by decide +kernel⟩, by decide +kernel, by decide +kernel⟩
theorem zWd16 : zm_Wd 16 1 := ⟨zw_474, zw_52, ⟨by decide +kernel, by decide +kernel, by decide +kernel⟩, by decide +kernel, by decide +kernel⟩
theorem zWd17 : zm_Wd 17 2 := ⟨zw_543, zw_52, ⟨by decide +kernel, by decide +kernel, by decide +kernel⟩, by decide +kernel, by decide +kernel⟩
theorem zWd18 : zm_Wd 18 0 := ⟨zw_83, zw_51, ⟨by decide +kernel, by decide +kernel, by decide +kernel⟩, by decide +kernel, by decide +kernel⟩
theorem zWd19 : zm_Wd 19 1 := ⟨zw_418, zw_51, ⟨by decide +kernel, by decide +kernel, by decide +kernel⟩, by decide +kernel, by decide +kernel⟩
theorem zWd20 : zm_Wd 20 3 := ⟨zw_401, zw_51, ⟨by decide +kernel, by decide +kernel, by decide +kernel⟩, by decide +kernel, by decide +kernel⟩
theorem zWd21 : zm_Wd 21 2 := ⟨zw_638, zw_51, ⟨by decide +kernel, by decide +kernel, by decide +kernel⟩, by decide +kernel, by decide +kernel⟩
theorem zWd22 : zm_Wd 22 0 := ⟨zw_437, zw_51, ⟨by decide +kernel, by decide +kernel, by decide +kernel⟩, by decide +kernel, by decide +kernel⟩
theorem zWd23 : zm_Wd 23 0 := ⟨zw_445, zw_51, ⟨by decide +kernel, by decide +kernel, by decide +kernel⟩, by decide +kernel, by decide +kernel⟩
theorem zWd24 : zm_Wd 24 0 := ⟨zw_450, zw_51, ⟨by decide +kernel, by decide +kernel, by decide +kernel⟩, by decide +kernel, by decide +kernel⟩
theorem zWd25 : zm_Wd 25 0 := ⟨zw_559, zw_51, ⟨by decide +kernel, by decide +kernel, by decide +kernel⟩, by decide +kernel, by decide +kernel⟩
theorem zWd26 : zm_Wd 26 0 := ⟨zw_454, zw_51, ⟨by decide +kernel, by decide +kernel, by decide +kernel⟩, by decide +kernel, by decide +kernel⟩
theorem zWd27 : zm_Wd 27 2 := ⟨zw_539, zw_51, ⟨by decide +kernel, by decide +kernel, by decide +kernel⟩, by decide +kernel, by decide +kernel⟩
theorem zWd28 : zm_Wd 28 0 := ⟨zw_77, zw_50, ⟨by decide +kernel, by decide +kernel, by decide +kernel⟩, by decide +kernel, by decide +kernel⟩
theorem zWd29 : zm_Wd 29 0 := ⟨zw_302, zw_50, ⟨by decide +kernel, by decide +kernel, by decide +kernel⟩, by decide +kernel, by decide +kernel⟩
theorem zWd30 : zm_Wd 30 1 := ⟨zw_414, zw_50, ⟨by decide +kernel, by decide +kernel, by decide +kernel⟩, by decide +kernel, by decide +kernel⟩
theorem zWd31 : zm_Wd 31 0 := ⟨zw_466, zw_50, ⟨by decide +kernel, by decide +kernel, by decide +kernel⟩, by decide +kernel, by decide +kernel⟩
theorem zWd32 : zm_Wd 32 0 := ⟨zw_534, zw_50, ⟨by decide +kernel, by decide +kernel, by decide +kernel⟩, by decide +kernel, by decide +kernel⟩
theorem zWd33 : zm_Wd 33 1 := ⟨zw_530, zw_50, ⟨by decide +kernel, by decide +kernel, by decide +kernel⟩, by decide +kernel, by decide +kernel⟩
theorem zWd34 : zm_Wd 34 1 := ⟨zw_574, zw_50, ⟨by decide +kernel, by decide +kernel, by decide +kernel⟩, by decide +kernel, by decide +kernel⟩
theorem zWd35 : zm_Wd 35 2 := ⟨zw_578, zw_50, ⟨by decide +kernel, by decide +kernel, by decide +kernel⟩, by decide +kernel, by decide +kernel⟩
theorem zWd36 : zm_Wd 36 1 := ⟨zw_583, zw_50, ⟨by decide +kernel, by decide +kernel, by decide +kernel⟩, by decide +kernel, by decide +kernel⟩
theorem zWd37 : zm_Wd 37 1 := ⟨zw_634, zw_50, ⟨by decide +kernel, by decide +kernel, by decide +kernel⟩, by decide +kernel, by decide +kernel⟩
theorem zWd38 : zm_Wd 38 2 := ⟨zw_729, zw_50, ⟨by decide +kernel, by decide +kernel, by decide +kernel⟩, by decide +kernel, by decide +kernel⟩
theorem zWd39 : zm_Wd 39 0 := ⟨zw_159, zw_55, ⟨by decide +kernel, by decide +kernel, by decide +kernel⟩, by decide +kernel, by decide +kernel⟩
theorem zWd40 : zm_Wd 40 1 := ⟨zw_286, zw_55, ⟨by decide +kernel, by decide +kernel, by decide +kernel⟩, by decide +kernel, by decide +kernel⟩
theorem zWd41 : zm_Wd 41 0 := ⟨zw_306, zw_55, ⟨by decide +kernel, by decide +kernel, by decide +kernel⟩, by decide +kernel, by decide +kernel⟩
theorem zWd42 : zm_Wd 42 0 := ⟨zw_310, zw_55, ⟨by decide +kernel, by decide +kernel, by decide +kernel⟩, by decide +kernel, by decide +kernel⟩
theorem zWd43 : zm_Wd 43 1 := ⟨zw_330, zw_55, ⟨by decide +kernel, by decide +kernel, by decide +kernel⟩, by decide +kernel, by decide +kernel⟩
theorem zWd44 : zm_Wd 44 0 := ⟨zw_317, zw_55, ⟨by decide +kernel, by decide +kernel, by decide +kernel⟩, by decide +kernel, by decide +kernel⟩
theorem zWd45 : zm_Wd 45 1 := ⟨zw_313, zw_55, ⟨by decide +kernel, by decide +kernel, by decide +kernel⟩, by decide +kernel, by decide +kernel⟩
theorem zWd46 : zm_Wd 46 0 := ⟨zw_153, zw_54, ⟨by decide +kernel, by decide +kernel, by decide +kernel⟩, by decide +kernel, by decide +kernel⟩
theorem zWd47 : zm_Wd 47 0 := ⟨zw_298, zw_54, ⟨by decide +kernel, by decide +kernel, by decide +kernel⟩, by decide +kernel, by decide +kernel⟩
theorem zWd48 : zm_Wd 48 0 := ⟨zw_321, zw_54, ⟨by decide +kernel, by decide +kernel, by decide +kernel⟩, by decide +kernel, by decide +kernel⟩
theorem zWd49 : zm_Wd 49 0 := ⟨zw_325, zw_54, ⟨by decide +kernel, by decide +kernel, by decide +kernel⟩, by decide +kernel, by decide +kernel⟩
theorem zWd50 : zm_Wd 50 1 := ⟨zw_385, zw_54, ⟨by decide +kernel, by decide +kernel, by decide +kernel⟩, by decide +kernel, by decide +kernel⟩
theorem zWd51 : zm_Wd 51 0 := ⟨zw_410, zw_54, ⟨by decide +kernel, by decide +kernel, by decide +kernel⟩, by decide +kernel, by decide +kernel⟩
theorem zWd52 : zm_Wd 52 1 := ⟨zw_393, zw_54, ⟨by decide +kernel, by decide +kernel, by decide +kernel⟩, by decide +kernel, by decide +kernel⟩
theorem zWd53 : zm_Wd 53 0 := ⟨zw_405, zw_54, ⟨by decide +kernel, by decide +kernel, by decide +kernel⟩, by decide +kernel, by decide +kernel⟩
theorem zWd54 : zm_Wd 54 0 := ⟨zw_397, zw_54, ⟨by decide +kernel, by decide +kernel, by decide +kernel⟩, by decide +kernel, by decide +kernel⟩
theorem zWd55 : zm_Wd 55 1 := ⟨zw_389, zw_54, ⟨by decide +kernel, by decide +kernel, by decide +kernel⟩, by decide +kernel, by decide +kernel⟩
theorem zWd56 : zm_Wd 56 0 := ⟨zw_217, zw_56, ⟨by decide +kernel, by decide +kernel, by decide +kernel⟩, by decide +kernel, by decide +kernel⟩
theorem zWd57 : zm_Wd 57 2 := ⟨zw_756, zw_56, ⟨by decide +kernel, by decide +kernel, by decide +kernel⟩, by decide +kernel, by decide +kernel⟩
theorem zWd58 : zm_Wd 58 2 := ⟨zw_769, zw_56, ⟨by decide +kernel, by decide +kernel, by decide +kernel⟩, by decide +kernel, by decide +kernel⟩
theorem zWd59 : zm_Wd 59 2 := ⟨zw_765, zw_56, ⟨by decide +kernel, by decide +kernel, by decide +kernel⟩, by decide +kernel, by decide +kernel⟩
theorem zWd60 : zm_Wd 60 3 := ⟨zw_777, zw_56, ⟨by decide +kernel, by decide +kernel, by decide +kernel⟩, by decide +kernel, by decide +kernel⟩
theorem zWd61 : zm_Wd 61 0 := ⟨zw_69, zw_49, ⟨by decide +kernel, by decide +kernel, by decide +kernel⟩, by decide +kernel, by decide +kernel⟩
theorem zWd62 : zm_Wd 62 1 := ⟨zw_279, zw_49, ⟨by decide +kernel, by decide +kernel, by decide +kernel⟩, by decide +kernel, by decide +kernel⟩
theorem zWd63 : zm_Wd 63 1 := ⟨zw_290, zw_49, ⟨by decide +kernel, by decide +kernel, by decide +kernel⟩, by decide +kernel, by decide +kernel⟩
theorem zWd64 : zm_Wd 64 0 := ⟨zw_294, zw_49, ⟨by decide +kernel, by decide +kernel, by decide +kernel⟩, by decide +kernel, by decide +kernel⟩
theorem zWd65 : zm_Wd 65 0 := ⟨zw_429, zw_49, ⟨by decide +kernel, by decide +kernel, by decide +kernel⟩, by decide +kernel, by decide +kernel⟩
theorem zWd66 : zm_Wd 66 1 := ⟨zw_433, zw_49, ⟨by decide +kernel, by decide +kernel, by decide +kernel⟩, by decide +kernel, by decide +kernel⟩
theorem zWd67 : zm_Wd 67 2 := ⟨zw_458, zw_49, ⟨by decide +kernel, by decide +kernel, by decide +kernel⟩, by decide +kernel, by decide +kernel⟩
theorem zWd68 : zm_Wd 68 2 := ⟨zw_482, zw_49, ⟨by decide +kernel, by decide +kernel, by decide +kernel⟩, by decide +kernel, by decide +kernel⟩
theorem zWd69 : zm_Wd 69 3 := ⟨zw_486, zw_49, ⟨by decide +kernel, by decide +kernel, by decide +kernel⟩, by decide +kernel, by decide +kernel⟩
theorem zWd70 : zm_Wd 70 3 := ⟨zw_496, zw_49, ⟨by decide +kernel, by decide +kernel, by decide +kernel⟩, by decide +kernel, by decide +kernel⟩
theorem zWd71 : zm_Wd 71 2 := ⟨zw_500, zw_49, ⟨by decide +kernel, by decide +kernel, by decide +kernel⟩, by decide +kernel, by decide +kernel⟩
theorem zWd72 : zm_Wd 72 1 := ⟨zw_509, zw_49, ⟨by decide +kernel, by decide +kernel, by decide +kernel⟩, by decide +kernel, by decide +kernel⟩
theorem zWd73 : zm_Wd 73 1 := ⟨zw_514, zw_49, ⟨by decide +kernel, by decide +kernel, by decide +kernel⟩, by decide +kernel, by decide +kernel⟩
theorem zWd74 : zm_Wd 74 1 := ⟨zw_522, zw_49, ⟨by decide +kernel, by decide +kernel, by decide +kernel⟩, by decide +kernel, by decide +kernel⟩
theorem zWd75 : zm_Wd 75 1 := ⟨zw_526, zw_49, ⟨by decide +kernel, by decide +kernel, by decide +kernel⟩, by decide +kernel, by decide +kernel⟩
theorem zWd76 : zm_Wd 76 2 := ⟨zw_570, zw_49, ⟨by decide +kernel, by decide +kernel, by decide +kernel⟩, by decide +kernel, by decide +kernel⟩
theorem zWd77 : zm_Wd 77 3 := ⟨zw_587, zw_49, ⟨by decide +kernel, by decide +kernel, by decide +kernel⟩, by decide +kernel, by decide +kernel⟩
theorem zWd78 : zm_Wd 78 1 := ⟨zw_591, zw_49, ⟨by decide +kernel, by decide +kernel, by decide +kernel⟩, by decide +kernel, by decide +kernel⟩
theorem zWd79 : zm_Wd 79 3 := ⟨zw_601, zw_49, ⟨by decide +kernel, by decide +kernel, by decide +kernel⟩, by decide +kernel, by decide +kernel⟩
theorem zWd80 : zm_Wd 80 1 := ⟨zw_610, zw_49, ⟨by decide +kernel, by decide +kernel, by decide +kernel⟩, by decide +kernel, by decide +kernel⟩
theorem zWd81 : zm_Wd 81 0 := ⟨zw_614, zw_49, ⟨by decide +kernel, by decide +kernel, by decide +kernel⟩, by decide +kernel, by decide +kernel⟩
theorem zWd82 : zm_Wd 82 2 := ⟨zw_619, zw_49, ⟨by decide +kernel, by decide +kernel, by decide +kernel⟩, by decide +kernel, by decide +kernel⟩
theorem zWd83 : zm_Wd 83 1 := ⟨zw_623, zw_49, ⟨by decide +kernel, by decide +kernel, by decide +kernel⟩, by decide +kernel, by decide +kernel⟩
theorem zWd84 : zm_Wd 84 2 := ⟨zw_630, zw_49, ⟨by decide +kernel, by decide +kernel, by decide +kernel⟩, by decide +kernel, by decide +kernel⟩
theorem zWd85 : zm_Wd 85 2 := ⟨zw_642, zw_49, ⟨by decide +kernel, by decide +kernel, by decide +kernel⟩, by decide +kernel, by decide +kernel⟩
theorem zWd86 : zm_Wd 86 2 := ⟨zw_646, zw_49, ⟨by decide +kernel, by decide +kernel, by decide +kernel⟩, by decide +kernel, by decide +kernel⟩
theorem zWd87 : zm_Wd 87 2 := ⟨zw_654, zw_49, ⟨by decide +kernel, by decide +kernel, by decide +kernel⟩, by decide +kernel, by decide +kernel⟩
theorem zWd88 : zm_Wd 88 2 := ⟨zw_658, zw_49, ⟨by decide +kernel, by decide +kernel, by decide +kernel⟩, by decide +kernel, by decide +kernel⟩
theorem zWd89 : zm_Wd 89 3 := ⟨zw_663, zw_49, ⟨by decide +kernel, by decide +kernel, by decide +kernel⟩, by decide +kernel, by decide +kernel⟩
theorem zWd90 : zm_Wd 90 3 := ⟨zw_680, zw_49, ⟨by decide +kernel, by decide +kernel, by decide +kernel⟩, by decide +kernel, by decide +kernel⟩
theorem zWd91 : zm_Wd 91 2 := ⟨zw_684, zw_49, ⟨by decide +kernel, by decide +kernel, by decide +kernel⟩, by decide +kernel, by decide +kernel⟩
theorem zWd92 : zm_Wd 92 1 := ⟨zw_688, zw_49, ⟨by decide +kernel, by decide +kernel, by decide +kernel⟩, by decide +kernel, by decide +kernel⟩
theorem zWd93 : zm_Wd 93 1 := ⟨zw_692, zw_49, ⟨by decide +kernel, by decide +kernel, by decide +kernel⟩, by decide +kernel, by decide +kernel⟩
theorem zWd94 : zm_Wd 94 1 := ⟨zw_713, zw_49, ⟨by decide +kernel, by decide +kernel, by decide +kernel⟩, by decide +kernel, by decide +kernel⟩
theorem zWd95 : zm_Wd 95 2 := ⟨zw_717, zw_49, ⟨by decide +kernel, by decide +kernel, by decide +kernel⟩, by decide +kernel, by decide +kernel⟩
theorem zWd96 : zm_Wd 96 2 := ⟨zw_721, zw_49, ⟨by decide +kernel, by decide +kernel, by decide +kernel⟩, by decide +kernel, by decide +kernel⟩
theorem zWd97 : zm_Wd 97 3 := ⟨zw_739, zw_49, ⟨by decide +kernel, by decide +kernel, by decide +kernel⟩, by decide +kernel, by decide +kernel⟩
theorem zWd98 : zm_Wd 98 1 := ⟨zw_744, zw_49, ⟨by decide +kernel, by decide +kernel, by decide +kernel⟩, by decide +kernel, by decide +kernel⟩
theorem zWd99 : zm_Wd 99 1 := ⟨zw_748, zw_49, ⟨by decide +kernel, by decide +kernel, by decide +kernel⟩, by decide +kernel, by decide +kernel⟩
theorem zWd100 : zm_Wd 100 3 := ⟨zw_752, zw_49, ⟨by decide +kernel, by decide +kernel, by decide +kernel⟩, by decide +kernel, by decide +kernel⟩
theorem zWd101 : zm_Wd 101 3 := ⟨zw_761, zw_49, ⟨by decide +kernel, by decide +kernel, by decide +kernel⟩, by decide +kernel, by decide +kernel⟩
theorem zWd102 : zm_Wd 102 4 := ⟨zw_773, zw_49, ⟨by decide +kernel, by decide +kernel, by decide +kernel⟩, by decide +kernel, by decide +kernel⟩
theorem zWd103 : zm_Wd 103 0 := ⟨zw_782, zw_49, ⟨by decide +kernel, by decide +kernel, by decide +kernel⟩, by decide +kernel, by decide +kernel⟩
theorem zWd104 : zm_Wd 104 1 := ⟨zw_786, zw_49, ⟨by decide +kernel, by decide +kernel, by decide +kernel⟩, by decide +kernel, by decide +kernel⟩
theorem zWd105 : zm_Wd 105 2 := ⟨zw_282, zw_49, ⟨by decide +kernel, by decide +kernel, by decide +kernel⟩, by decide +kernel, by decide +kernel⟩
theorem zWd106 : zm_Wd 106 1 := ⟨zw_462, zw_49, ⟨by decide +kernel, by decide +kernel, by decide +kernel⟩, by decide +kernel, by decide +kernel⟩
theorem zWd107 : zm_Wd 107 1 := ⟨zw_789, zw_49, ⟨by decide +kernel, by decide +kernel, by decide +kernel⟩, by decide +kernel, by decide +kernel⟩
theorem zWd108 : zm_Wd 108 3 := ⟨zw_626, zw_49, ⟨by decide +kernel, by decide +kernel, by decide +kernel⟩, by decide +kernel, by decide +kernel⟩
theorem zWd109 : zm_Wd 109 3 := ⟨zw_606, zw_49, ⟨by decide +kernel, by decide +kernel, by decide +kernel⟩, by decide +kernel, by decide +kernel⟩
theorem zWd110 : zm_Wd 110 2 := ⟨zw_504, zw_49, ⟨by decide +kernel, by decide +kernel, by decide +kernel⟩, by decide +kernel, by decide +kernel⟩
theorem zWd111 : zm_Wd 111 0 := ⟨zw_596, zw_49, ⟨by decide +kernel, by decide +kernel, by decide +kernel⟩, by decide +kernel, by decide +kernel⟩
theorem zWd112 : zm_Wd 112 3 := ⟨zw_650, zw_49, ⟨by decide +kernel, by decide +kernel, by decide +kernel⟩, by decide +kernel, by decide +kernel⟩
theorem zWd113 : zm_Wd 113 4 := ⟨zw_667, zw_49, ⟨by decide +kernel, by decide +kernel, by decide +kernel⟩, by decide +kernel, by decide +kernel⟩
theorem zWd114 : zm_Wd 114 6 := ⟨zw_672, zw_49, ⟨by decide +kernel, by decide +kernel, by decide +kernel⟩, by decide +kernel, by decide +kernel⟩
theorem zWd115 : zm_Wd 115 4 := ⟨zw_675, zw_49, ⟨by decide +kernel, by decide +kernel, by decide +kernel⟩, by decide +kernel, by decide +kernel⟩
theorem zWd116 : zm_Wd 116 3 := ⟨zw_696, zw_49, ⟨by decide +kernel, by decide +kernel, by decide +kernel⟩, by decide +kernel, by decide +kernel⟩
theorem zWd117 : zm_Wd 117 3 := ⟨zw_700, zw_49, ⟨by decide +kernel, by decide +kernel, by decide +kernel⟩, by decide +kernel, by decide +kernel⟩
theorem zWd118 : zm_Wd 118 0 := ⟨zw_704, zw_49, ⟨by decide +kernel, by decide +kernel, by decide +kernel⟩, by decide +kernel, by decide +kernel⟩
theorem zWd119 : zm_Wd 119 2 := ⟨zw_709, zw_49, ⟨by decide +kernel, by decide +kernel, by decide +kernel⟩, by decide +kernel, by decide +kernel⟩
theorem zWd120 : zm_Wd 120 1 := ⟨zw_725, zw_49, ⟨by decide +kernel, by decide +kernel, by decide +kernel⟩, by decide +kernel, by decide +kernel⟩
theorem zWd121 : zm_Wd 121 2 := ⟨zw_735, zw_49, ⟨by decide +kernel, by decide +kernel, by decide +kernel⟩, by decide +kernel, by decide +kernel⟩
theorem zWd122 : zm_Wd 122 0 := ⟨zw_794, zw_57, ⟨by decide +kernel, by decide +kernel, by decide +kernel⟩, by decide +kernel, by decide +kernel⟩
theorem zWd123 : zm_Wd 123 3 := ⟨zw_882, zw_57, ⟨by decide +kernel, by decide +kernel, by decide +kernel⟩, by decide +kernel, by decide +kernel⟩
theorem zWd124 : zm_Wd 124 1 := ⟨zw_878, zw_57, ⟨by decide +kernel, by decide +kernel, by decide +kernel⟩, by decide +kernel, by decide +kernel⟩
theorem zWd125 : zm_Wd 125 1 := ⟨zw_886, zw_57, ⟨by decide +kernel, by decide +kernel, by decide +kernel⟩, by decide +kernel, by decide +kernel⟩
theorem zWd126 : zm_Wd 126 1 := ⟨zw_898, zw_57, ⟨by decide +kernel, by decide +kernel, by decide +kernel⟩, by decide +kernel, by decide +kernel⟩
theorem zWd127 : zm_Wd 127 1 := ⟨zw_906, zw_57, ⟨by decide +kernel, by decide +kernel, by decide +kernel⟩, by decide +kernel, by decide +kernel⟩
theorem zWd128 : zm_Wd 128 0 := ⟨zw_914, zw_57, ⟨by decide +kernel, by decide +kernel, by decide +kernel⟩, by decide +kernel, by decide +kernel⟩
theorem zWd129 : zm_Wd 129 0 := ⟨zw_894, zw_57, ⟨by decide +kernel, by decide +kernel, by decide +kernel⟩, by decide +kernel, by decide +kernel⟩
theorem zWd130 : zm_Wd 130 2 := ⟨zw_923, zw_57, ⟨by decide +kernel, by decide +kernel, by decide +kernel⟩, by decide +kernel, by decide +kernel⟩
theorem zWd131 : zm_Wd 131 1 := ⟨zw_919, zw_57, ⟨by decide +kernel, by decide +kernel, by decide +kernel⟩, by decide +kernel, by decide +kernel⟩
theorem zWd132 : zm_Wd 132 0 := ⟨zw_910, zw_57, ⟨by decide +kernel, by decide +kernel, by decide +kernel⟩, by decide +kernel, by decide +kernel⟩
theorem zWd133 : zm_Wd 133 0 := ⟨zw_890, zw_57, ⟨by decide +kernel, by decide +kernel, by decide +kernel⟩, by decide +kernel, by decide +kernel⟩
theorem zWd134 : zm_Wd 134 0 := ⟨zw_928, zw_57, ⟨by decide +kernel, by decide +kernel, by decide +kernel⟩, by decide +kernel, by decide +kernel⟩
theorem zWd135 : zm_Wd 135 1 := ⟨zw_956, zw_57, ⟨by decide +kernel, by decide +kernel, by decide +kernel⟩, by decide +kernel, by decide +kernel⟩
theorem zWd136 : zm_Wd 136 1 := ⟨zw_960, zw_57, ⟨by decide +kernel, by decide +kernel, by decide +kernel⟩, by decide +kernel, by decide +kernel⟩
theorem zWd137 : zm_Wd 137 1 := ⟨zw_968, zw_57, ⟨by decide +kernel, by decide +kernel, by decide +kernel⟩, by decide +kernel, by decide +kernel⟩
theorem zWd138 : zm_Wd 138 3 := ⟨zw_964, zw_57, ⟨by decide +kernel, by decide +kernel, by decide +kernel⟩, by decide +kernel, by decide +kernel⟩
theorem zWd139 : zm_Wd 139 3 := ⟨zw_972, zw_57, ⟨by decide +kernel, by decide +kernel, by decide +kernel⟩, by decide +kernel, by decide +kernel⟩
theorem zWd140 : zm_Wd 140 3 := ⟨zw_1030, zw_57, ⟨by decide +kernel, by decide +kernel, by decide +kernel⟩, by decide +kernel, by decide +kernel⟩
theorem zWd141 : zm_Wd 141 1 := ⟨zw_1026, zw_57, ⟨by decide +kernel, by decide +kernel, by decide +kernel⟩, by decide +kernel, by decide +kernel⟩
theorem zWd142 : zm_Wd 142 1 := ⟨zw_944, zw_57, ⟨by decide +kernel, by decide +kernel, by decide +kernel⟩, by decide +kernel, by decide +kernel⟩
theorem zWd143 : zm_Wd 143 1 := ⟨zw_936, zw_57, ⟨by decide +kernel, by decide +kernel, by decide +kernel⟩, by decide +kernel, by decide +kernel⟩
theorem zWd144 : zm_Wd 144 1 := ⟨zw_940, zw_57, ⟨by decide +kernel, by decide +kernel, by decide +kernel⟩, by decide +kernel, by decide +kernel⟩
theorem zWd145 : zm_Wd 145 1 := ⟨zw_948, zw_57, ⟨by decide +kernel, by decide +kernel, by decide +kernel⟩, by decide +kernel, by decide +kernel⟩
theorem zWd146 : zm_Wd 146 1 := ⟨zw_1033, zw_57, ⟨by decide +kernel, by decide +kernel, by decide +kernel⟩, by decide +kernel, by decide +kernel⟩
theorem zWd147 : zm_Wd 147 1 := ⟨zw_932, zw_57, ⟨by decide +kernel, by decide +kernel, by decide +kernel⟩, by decide +kernel, by decide +kernel⟩
theorem zWd148 : zm_Wd 148 2 := ⟨zw_952, zw_57, ⟨by decide +kernel, by decide +kernel, by decide +kernel⟩, by decide +kernel, by decide +kernel⟩
theorem zWd149 : zm_Wd 149 2 := ⟨zw_976, zw_57, ⟨by decide +kernel, by decide +kernel, by decide +kernel⟩, by decide +kernel, by decide +kernel⟩
theorem zWd150 : zm_Wd 150 4 := ⟨zw_985, zw_57, ⟨by decide +kernel, by decide +kernel, by decide +kernel⟩, by decide +kernel, by decide +kernel⟩
theorem zWd151 : zm_Wd 151 3 := ⟨zw_980, zw_57, ⟨by decide +kernel, by decide +kernel, by decide +kernel⟩, by decide +kernel, by decide +kernel⟩
theorem zWd152 : zm_Wd 152 3 := ⟨zw_989, zw_57, ⟨by decide +kernel, by decide +kernel, by decide +kernel⟩, by decide +kernel, by decide +kernel⟩
theorem zWd153 : zm_Wd 153 2 := ⟨zw_999, zw_57, ⟨by decide +kernel, by decide +kernel, by decide +kernel⟩, by decide +kernel, by decide +kernel⟩
theorem zWd154 : zm_Wd 154 2 := ⟨zw_995, zw_57, ⟨by decide +kernel, by decide +kernel, by decide +kernel⟩, by decide +kernel, by decide +kernel⟩
theorem zWd155 : zm_Wd 155 1 := ⟨zw_1009, zw_57, ⟨by decide +kernel, by decide +kernel, by decide +kernel⟩, by decide +kernel, by decide +kernel⟩
theorem zWd156 : zm_Wd 156 1 := ⟨zw_1005, zw_57, ⟨by decide +kernel, by decide +kernel, by decide +kernel⟩, by decide +kernel, by decide +kernel⟩
theorem zWd157 : zm_Wd 157 1 := ⟨zw_1013, zw_57, ⟨by decide +kernel, by decide +kernel, by decide +kernel⟩, by decide +kernel, by decide +kernel⟩
theorem zWd158 : zm_Wd 158 1 := ⟨zw_1017, zw_57, ⟨by decide +kernel, by decide +kernel, by decide +kernel⟩, by decide +kernel, by decide +kernel⟩
theorem zWd159 : zm_Wd 159 1 := ⟨zw_1021, zw_57, ⟨by decide +kernel, by decide +kernel, by decide +kernel⟩, by decide +kernel, by decide +kernel⟩
theorem zWd160 : zm_Wd 160 2 := ⟨zw_1046, zw_57, ⟨by decide +kernel, by decide +kernel, by decide +kernel⟩, by decide +kernel, by decide +kernel⟩
theorem zWd161 : zm_Wd 161 2 := ⟨zw_1042, zw_57, ⟨by decide +kernel, by decide +kernel, by decide +kernel⟩, by decide +kernel, by decide +kernel⟩
theorem zWd162 : zm_Wd 162 2 := ⟨zw_1037, zw_57, ⟨by decide +kernel, by decide +kernel, by decide +kernel⟩, by decide +kernel, by decide +kernel⟩
theorem zWd163 : zm_Wd 163 3 := ⟨zw_1050, zw_57, ⟨by decide +kernel, by decide +kernel, by decide +kernel⟩, by decide +kernel, by decide +kernel⟩
theorem zWd164 : zm_Wd 164 2 := ⟨zw_1058, zw_57, ⟨by decide +kernel, by decide +kernel, by decide +kernel⟩, by decide +kernel, by decide +kernel⟩
theorem zWd165 : zm_Wd 165 1 := ⟨zw_1054, zw_57, ⟨by decide +kernel, by decide +kernel, by decide +kernel⟩, by decide +kernel, by decide +kernel⟩
theorem zWd166 : zm_Wd 166 3 := ⟨zw_1066, zw_57, ⟨by decide +kernel, by decide +kernel, by decide +kernel⟩, by decide +kernel, by decide +kernel⟩
theorem zWd167 : zm_Wd 167 3 := ⟨zw_1062, zw_57, ⟨by decide +kernel, by decide +kernel, by decide +kernel⟩, by decide +kernel, by decide +kernel⟩
theorem zWd168 : zm_Wd 168 1 := ⟨zw_1070, zw_57, ⟨by decide +kernel, by decide +kernel, by decide +kernel⟩, by decide +kernel, by decide +kernel⟩
theorem zWd169 : zm_Wd 169 0 := ⟨zw_1074, zw_57, ⟨by decide +kernel, by decide +kernel, by decide +kernel⟩, by decide +kernel, by decide +kernel⟩
theorem zWd170 : zm_Wd 170 2 := ⟨zw_1078, zw_57, ⟨by decide +kernel, by decide +kernel, by decide +kernel⟩, by decide +kernel, by decide +kernel⟩
theorem zWd171 : zm_Wd 171 1 := ⟨zw_1082, zw_57, ⟨by decide +kernel, by decide +kernel, by decide +kernel⟩, by decide +kernel, by decide +kernel⟩
theorem zWd172 : zm_Wd 172 2 := ⟨zw_1086, zw_57, ⟨by decide +kernel, by decide +kernel, by decide +kernel⟩, by decide +kernel, by decide +kernel⟩
theorem zWd173 : zm_Wd 173 2 := ⟨zw_1090, zw_57, ⟨by decide +kernel, by decide +kernel, by decide +kernel⟩, by decide +kernel, by decide +kernel⟩
theorem zWd174 : zm_Wd 174 2 := ⟨zw_1098, zw_57, ⟨by decide +kernel, by decide +kernel, by decide +kernel⟩, by decide +kernel, by decide +kernel⟩
theorem zWd175 : zm_Wd 175 2 := ⟨zw_1094, zw_57, ⟨by decide +kernel, by decide +kernel, by decide +kernel⟩, by decide +kernel, by decide +kernel⟩
theorem zWd176 : zm_Wd 176 2 := ⟨zw_1102, zw_57, ⟨by decide +kernel, by decide +kernel, by decide +kernel⟩, by decide +kernel, by decide +kernel⟩
theorem zWd177 : zm_Wd 177 2 := ⟨zw_1106, zw_57, ⟨by decide +kernel, by decide +kernel, by decide +kernel⟩, by decide +kernel, by decide +kernel⟩
theorem zWd178 : zm_Wd 178 4 := ⟨zw_1115, zw_57, ⟨by decide +kernel, by decide +kernel, by decide +kernel⟩, by decide +kernel, by decide +kernel⟩
theorem zWd179 : zm_Wd 179 3 := ⟨zw_1110, zw_57, ⟨by decide +kernel, by decide +kernel, by decide +kernel⟩, by decide +kernel, by decide +kernel⟩
theorem zWd180 : zm_Wd 180 3 := ⟨zw_1119, zw_57, ⟨by decide +kernel, by decide +kernel, by decide +kernel⟩, by decide +kernel, by decide +kernel⟩
theorem zWd181 : zm_Wd 181 2 := ⟨zw_1123, zw_57, ⟨by decide +kernel, by decide +kernel, by decide +kernel⟩, by decide +kernel, by decide +kernel⟩
theorem zWd182 : zm_Wd 182 1 := ⟨zw_1127, zw_57, ⟨by decide +kernel, by decide +kernel, by decide +kernel⟩, by decide +kernel, by decide +kernel⟩
theorem zWd183 : zm_Wd 183 1 := ⟨zw_1139, zw_57, ⟨by decide +kernel, by decide +kernel, by decide +kernel⟩, by decide +kernel, by decide +kernel⟩
theorem zWd184 : zm_Wd 184 1 := ⟨zw_1135, zw_57, ⟨by decide +kernel, by decide +kernel, by decide +kernel⟩, by decide +kernel, by decide +kernel⟩
theorem zWd185 : zm_Wd 185 1 := ⟨zw_1131, zw_57, ⟨by decide +kernel, by decide +kernel, by decide +kernel⟩, by decide +kernel, by decide +kernel⟩
theorem zWd186 : zm_Wd 186 1 := ⟨zw_1143, zw_57, ⟨by decide +kernel, by decide +kernel, by decide +kernel⟩, by decide +kernel, by decide +kernel⟩
theorem zWd187 : zm_Wd 187 2 := ⟨zw_1147, zw_57, ⟨by decide +kernel, by decide +kernel, by decide +kernel⟩, by decide +kernel, by decide +kernel⟩
theorem zWd188 : zm_Wd 188 2 := ⟨zw_1151, zw_57, ⟨by decide +kernel, by decide +kernel, by decide +kernel⟩, by decide +kernel, by decide +kernel⟩
theorem zWd189 : zm_Wd 189 3 := ⟨zw_1155, zw_57, ⟨by decide +kernel, by decide +kernel, by decide +kernel⟩, by decide +kernel, by decide +kernel⟩
theorem zWd190 : zm_Wd 190 1 := ⟨zw_1160, zw_57, ⟨by decide +kernel, by decide +kernel, by decide +kernel⟩, by decide +kernel, by decide +kernel⟩
theorem zWd191 : zm_Wd 191 1 := ⟨zw_1164, zw_57, ⟨by decide +kernel, by decide +kernel, by decide +kernel⟩, by decide +kernel, by decide +kernel⟩
theorem zWd192 : zm_Wd 192 3 := ⟨zw_1168, zw_57, ⟨by decide +kernel, by decide +kernel, by decide +kernel⟩, by decide +kernel, by decide +kernel⟩
theorem zWd193 : zm_Wd 193 3 := ⟨zw_1172, zw_57, ⟨by decide +kernel, by decide +kernel, by decide +kernel⟩, by decide +kernel, by decide +kernel⟩
theorem zWd194 : zm_Wd 194 4 := ⟨zw_1176, zw_57, ⟨by decide +kernel, by decide +kernel, by decide +kernel⟩, by decide +kernel, by decide +kernel⟩
theorem zWd195 : zm_Wd 195 0 := ⟨zw_1181, zw_57, ⟨by decide +kernel, by decide +kernel, by decide +kernel⟩, by decide +kernel, by decide +kernel⟩
theorem zWd196 : zm_Wd 196 1 := ⟨zw_1185, zw_57, ⟨by decide +kernel, by decide +kernel, by decide +kernel⟩, by decide +kernel, by decide +kernel⟩
