/-! the law's small methods that catch -/
theorem kw_421 : ((.codeWith ⟨"StagedParsersLaw", "node", "(LStagedParsers;IIII[J)I"⟩ method_3_code 7 (some .int) [(0, 14, 17, 13), (0, 14, 21, 15)]) : Cond) ∈ AW_ := aw_2 181 rfl rfl
theorem kw_544 : ((.codeWith ⟨"StagedParsersLaw", "rule", "(LStagedParsers;II[J)I"⟩ method_4_code 5 (some .int) [(0, 10, 13, 13)]) : Cond) ∈ AW_ := aw_3 64 rfl rfl
theorem kw_558 : ((.codeWith ⟨"StagedParsersLaw", "empty", "(LStagedParsers;I[J)I"⟩ method_5_code 4 (some .int) [(0, 16, 19, 13)]) : Cond) ∈ AW_ := aw_3 78 rfl rfl
theorem kw_570 : ((.codeWith ⟨"StagedParsersLaw", "begins", "(LStagedParsers;II[J)I"⟩ method_6_code 5 (some .int) [(0, 17, 20, 13)]) : Cond) ∈ AW_ := aw_3 90 rfl rfl
theorem kw_591 : ((.codeWith ⟨"StagedParsersLaw", "leads", "(LStagedParsers;I[J)I"⟩ method_7_code 4 (some .int) [(0, 9, 12, 13)]) : Cond) ∈ AW_ := aw_3 111 rfl rfl
theorem kw_603 : ((.codeWith ⟨"StagedParsersLaw", "type", "(LStagedParsers;C[J)I"⟩ method_8_code 4 (some .int) [(0, 9, 12, 13), (0, 9, 15, 15)]) : Cond) ∈ AW_ := aw_3 123 rfl rfl
theorem kw_620 : ((.codeWith ⟨"StagedParsersLaw", "parse", "(LStagedParsers;I[J)I"⟩ method_9_code 4 (some .int) [(0, 9, 12, 15), (0, 9, 15, 13), (0, 9, 18, 40), (0, 9, 21, 42)]) : Cond) ∈ AW_ := aw_3 140 rfl rfl
def y_L_node : MethodName := ⟨"StagedParsersLaw", "node", "(LStagedParsers;IIII[J)I"⟩
def w_L_node : List Cond := .codeWith y_L_node method_3_code 7 (some .int) [(0, 14, 17, 13), (0, 14, 21, 15)] :: AW_
def rm_L_node : Room := { frames := 7, cells := 1, slots := 6, locals := 115 }
theorem d_L_node_0 : decode method_3_code 0 = .ok (.aload 5, 2) := by decide +kernel
theorem d_L_node_2 : decode method_3_code 2 = .ok (.iconst 0, 1) := by decide +kernel
theorem d_L_node_3 : decode method_3_code 3 = .ok (.aload_n 0, 1) := by decide +kernel
theorem d_L_node_4 : decode method_3_code 4 = .ok (.iload_n 1, 1) := by decide +kernel
theorem d_L_node_5 : decode method_3_code 5 = .ok (.iload_n 2, 1) := by decide +kernel
theorem d_L_node_6 : decode method_3_code 6 = .ok (.iload_n 3, 1) := by decide +kernel
theorem d_L_node_7 : decode method_3_code 7 = .ok (.iload 4, 2) := by decide +kernel
theorem d_L_node_9 : decode method_3_code 9 = .ok (.invokevirtual 7, 3) := by decide +kernel
theorem d_L_node_12 : decode method_3_code 12 = .ok (.i2l, 1) := by decide +kernel
theorem d_L_node_13 : decode method_3_code 13 = .ok (.lastore, 1) := by decide +kernel
theorem d_L_node_14 : decode method_3_code 14 = .ok (.goto 11, 3) := by decide +kernel
theorem d_L_node_17 : decode method_3_code 17 = .ok (.astore 6, 2) := by decide +kernel
theorem d_L_node_19 : decode method_3_code 19 = .ok (.iconst 1, 1) := by decide +kernel
theorem d_L_node_20 : decode method_3_code 20 = .ok (.ireturn, 1) := by decide +kernel
theorem d_L_node_21 : decode method_3_code 21 = .ok (.astore 6, 2) := by decide +kernel
theorem d_L_node_23 : decode method_3_code 23 = .ok (.iconst 2, 1) := by decide +kernel
theorem d_L_node_24 : decode method_3_code 24 = .ok (.ireturn, 1) := by decide +kernel
theorem d_L_node_25 : decode method_3_code 25 = .ok (.iconst 0, 1) := by decide +kernel
theorem d_L_node_26 : decode method_3_code 26 = .ok (.ireturn, 1) := by decide +kernel
theorem cw_L_7 {R : Room} {s : State} {args : Array Value} (hts : ∀ w ∈ AW_, w.before args s = true) (hR : rm_S_node.frames + 1 ≤ R.frames ∧ 8 + (5 + 11) + rm_S_node.locals ≤ R.locals) : CallW R s args "StagedParsersLaw" "StagedParsers" 7 y_S_node prog_1_method_2_code 5 (some .int) w_S_node rm_S_node 0 0 4 :=
  ⟨callB_of 4 hts (aw_in kw_427) rfl rfl rfl (hts _ kw_1) (hts _ kw_424) ⟨by decide, by decide, by decide +kernel⟩ hR, hts _ kw_425, hts _ kw_426⟩
theorem cw_L_7_t {R : Room} {s : State} {args : Array Value} (hts : ∀ w ∈ AW_, w.before args s = true) (hR : rm_S_node_t.frames + 1 ≤ R.frames ∧ 8 + (5 + 11) + rm_S_node_t.locals ≤ R.locals) : CallW R s args "StagedParsersLaw" "StagedParsers" 7 y_S_node prog_1_method_2_code 5 (some .int) w_S_node rm_S_node_t 1 6 4 :=
  ⟨callB_of 4 hts (aw_in kw_427) rfl rfl rfl (hts _ kw_1) (hts _ kw_424) ⟨by decide, by decide, by decide +kernel⟩ hR, hts _ kw_425, hts _ kw_426⟩
set_option maxHeartbeats 4000000 in
set_option maxRecDepth 100000 in
theorem c_L_node (l : Launch) (hfl : l.flags = pinnedFlags ++ [noTraceFlag]) (dC : Nat → ClassId) (dI : Nat → Nat → Nat) (q : Nat → Nat) (cA : Nat → ClassId) (pt : Nat) (σ : MZ_) (a1 : Int32) (a2 : Int32) (a3 : Int32) (a4 : Int32) (ou : Nat) (cL : ClassId) (f : Nat → Int64) (k : Int32) (σ2 : MZ_) (f2 : Nat → Int64) (h : (k = 0 ∧ ∃ x, f_S_node σ a1 a2 a3 a4 = some (x, σ2) ∧ f2 = vp_updL f 0 x.toInt64) ∨ (k = 1 ∧ f2 = f ∧ f_S_node_t1 σ a1 a2 a3 a4 = some σ2) ∨ (k = 2 ∧ f2 = f ∧ f_S_node_t2 σ a1 a2 a3 a4 = some σ2)) : Met l y_L_node w_L_node rm_L_node (va_Pc [.ref (q 0), .int a1, .int a2, .int a3, .int a4, .ref ou] (PO_ dC dI q cA pt σ ou cL f)) (QW_ (some (.int k)) (fun H => va_P (dC, dI) cls_ (WO_ q cA σ2 ou cL f2) H) (AO_ q ou)) 1 6 (AO_ q ou) := by
  refine va_MetW (cc := method_3_code) (maxL := 7) (ret := (some .int)) (hh := [(0, 14, 17, 13), (0, 14, 21, 15)]) (by decide) rfl ?_
  intro p e s m args below meth c s₁ B hml hv
  obtain ⟨rfl, ⟨hP, hK, hD, hN, hZ⟩, hE, hO, hKO, hne, hNC⟩ := hv
  have hx := B.exec
  have hb := B.bytes
  have hr := B.returns
  have hts0 := atoms_spec (ws := w_L_node) B.pre
  have htab := tb_of B (hts0 _ List.mem_cons_self)
  have hts : ∀ w ∈ AW_, w.before _ s = true := fun w h => hts0 w (List.mem_cons_of_mem _ h)
  have hown : s.vm.findClass "StagedParsersLaw" = some m.cls := findClass_of_methodNamed B.named
  have hlocks := B.notSynchronized
  have hS : va_S (AO_ q ou) s.heap s.heap [] := va_S.rf
  have hl := lv_entry ([.ref (q 0), .int a1, .int a2, .int a3, .int a4, .ref ou]) (n := 7) (Nat.le_of_ble_eq_true rfl)
  rw [lg_entry_eq]
  generalize (lg_sl ([.ref (q 0), .int a1, .int a2, .int a3, .int a4, .ref ou]) ++ List.replicate (7 - (lg_sl ([.ref (q 0), .int a1, .int a2, .int a3, .int a4, .ref ou])).length) Slot.unset).toArray = ls at hl ⊢
  have hl : lv_has ls 7 [(0, .ref (q 0)), (1, .int a1), (2, .int a2), (3, .int a3), (4, .int a4), (5, .ref ou)] := hl
  refine lv_aload hx hb d_L_node_0 (lv_at hl 5 rfl) ?_
  refine lv_iconst (v := 0) hx hb d_L_node_2 (by decide) ?_
  refine lv_aload_n hx hb d_L_node_3 rfl (lv_at hl 0 rfl) ?_
  refine lv_iload_n hx hb d_L_node_4 rfl (lv_at hl 1 rfl) ?_
  refine lv_iload_n hx hb d_L_node_5 rfl (lv_at hl 2 rfl) ?_
  refine lv_iload_n hx hb d_L_node_6 rfl (lv_at hl 3 rfl) ?_
  refine lv_iload hx hb d_L_node_7 (lv_at hl 4 rfl) ?_
  rcases h with ⟨rfl, x, hf, rfl⟩ | ⟨rfl, rfl, hf⟩ | ⟨rfl, rfl, hf⟩
  · refine cx_wr (va_runV (As := [.int a1, .int a2, .int a3, .int a4]) (rest := [.int 0, .ref ou]) ⟨hx, hb, hml, hown, hts⟩ (c_S_node l dC dI q cA pt σ a1 a2 a3 a4 _ hf) (cw_L_7 hts ⟨Nat.le_of_ble_eq_true rfl, Nat.le_of_ble_eq_true rfl⟩) ⟨pxX_B, va_recv hK hP (ci := 0) (q0 := 0) rfl rfl, pxX_U hP hK hD hN hZ va_S.rf⟩ rfl rfl hl.1 rfl (lv_room (Nat.le_of_ble_eq_true rfl)) d_L_node_9 ⟨Nat.zero_le _, Nat.zero_le _⟩) hS (fun _ h => Or.inl h) (fun H locs hB hF hS => ?_)
    have hO := ow_kept hO hne hF
    have hP : va_P (dC, dI) cls_ (WO_ q cA σ2 ou cL f) H := va_P.app hB hO
    have hD : va_D (AO_ q ou) (WO_ q cA σ2 ou cL f) := ow_D hD hne σ2 f
    have hK : va_K (dC, dI) cls_ (tyX cA ++ [(cL, .long)]) s := va_K.app hK hKO
    refine lv_i2l hx hb d_L_node_12 rfl ?_
    refine va_last (ws := WO_ q cA σ2 ou cL f) (tys := tyX cA ++ [(cL, .long)]) hx hb hK hP hD hS 30 23 rfl rfl vi_0 d_L_node_13 (fun H locs hP _ hS => ?_)
    have hP := ow_up hP
    refine lv_goto (tgt := 25) hx hb d_L_node_14 rfl ?_
    refine lv_iconst (v := 0) hx hb d_L_node_25 (by decide) ?_
    refine W.widen (k := 1) (n := 6) (Nat.zero_le _) (Nat.zero_le _) ?_
    exact W.iret hx hb hr (fun t ht hW => ⟨rfl, by rw [ht]; exact hP, hS.F ht⟩) hS.2.2 d_L_node_26
  · refine cx_thr (X := "java/lang/IllegalArgumentException") (pre := []) (x := (0, 14, 17, 13)) (rst := [(0, 14, 21, 15)]) (As := [.int a1, .int a2, .int a3, .int a4]) (rest := [.int 0, .ref ou]) ⟨hx, hb, hml, hown, hts⟩ (c_S_node_t1 l hfl dC dI q cA pt σ a1 a2 a3 a4 _ hf) (cw_L_7_t hts ⟨Nat.le_of_ble_eq_true rfl, Nat.le_of_ble_eq_true rfl⟩) ⟨pt_B, va_recv hK hP (ci := 0) (q0 := 0) rfl rfl, pt_U hP hK hD hN hZ hE va_S.rf⟩ rfl hl.1 rfl (lv_room (Nat.le_of_ble_eq_true rfl)) d_L_node_9 ⟨Nat.le_of_ble_eq_true rfl, Nat.le_of_ble_eq_true rfl⟩ htab (fun pl t hpl hX => ⟨fun _ h => absurd h List.not_mem_nil, th_yes hpl hown (hts _ kw_422) hX (by decide) (by decide)⟩) hS (fun _ h => Or.inl h) (fun xa H locs hB hF hS => ?_)
    have hO := ow_kept hO hne hF
    have hP : va_P (dC, dI) cls_ (WO_ q cA σ2 ou cL _) H := va_P.app hB hO
    refine lv_astore hx hb d_L_node_17 hl (by decide) rfl (fun ls hl => ?_)
    refine lv_iconst (v := 1) hx hb d_L_node_19 (by decide) ?_
    exact W.iret hx hb hr (fun t ht hW => ⟨rfl, by rw [ht]; exact hP, hS.F ht⟩) hS.2.2 d_L_node_20
  · refine cx_thr (X := "java/lang/IllegalStateException") (pre := [(0, 14, 17, 13)]) (x := (0, 14, 21, 15)) (rst := []) (As := [.int a1, .int a2, .int a3, .int a4]) (rest := [.int 0, .ref ou]) ⟨hx, hb, hml, hown, hts⟩ (c_S_node_t2 l hfl dC dI q cA pt σ a1 a2 a3 a4 _ hf) (cw_L_7_t hts ⟨Nat.le_of_ble_eq_true rfl, Nat.le_of_ble_eq_true rfl⟩) ⟨pt_B, va_recv hK hP (ci := 0) (q0 := 0) rfl rfl, pt_U hP hK hD hN hZ hE va_S.rf⟩ rfl hl.1 rfl (lv_room (Nat.le_of_ble_eq_true rfl)) d_L_node_9 ⟨Nat.le_of_ble_eq_true rfl, Nat.le_of_ble_eq_true rfl⟩ htab (fun pl t hpl hX => ⟨List.forall_mem_cons.mpr ⟨th_no hpl hown (hts _ kw_422) hX (hNC _ (List.mem_of_getElem? (i := 0) rfl)) (by decide) (by decide), fun _ h => absurd h List.not_mem_nil⟩, th_yes hpl hown (hts _ kw_423) hX (by decide) (by decide)⟩) hS (fun _ h => Or.inl h) (fun xa H locs hB hF hS => ?_)
    have hO := ow_kept hO hne hF
    have hP : va_P (dC, dI) cls_ (WO_ q cA σ2 ou cL _) H := va_P.app hB hO
    refine lv_astore hx hb d_L_node_21 hl (by decide) rfl (fun ls hl => ?_)
    refine lv_iconst (v := 2) hx hb d_L_node_23 (by decide) ?_
    exact W.iret hx hb hr (fun t ht hW => ⟨rfl, by rw [ht]; exact hP, hS.F ht⟩) hS.2.2 d_L_node_24
def y_L_rule : MethodName := ⟨"StagedParsersLaw", "rule", "(LStagedParsers;II[J)I"⟩
def w_L_rule : List Cond := .codeWith y_L_rule method_4_code 5 (some .int) [(0, 10, 13, 13)] :: AW_
def rm_L_rule : Room := { frames := 7, cells := 1, slots := 6, locals := 104 }
theorem d_L_rule_0 : decode method_4_code 0 = .ok (.aload_n 3, 1) := by decide +kernel
theorem d_L_rule_1 : decode method_4_code 1 = .ok (.iconst 0, 1) := by decide +kernel
theorem d_L_rule_2 : decode method_4_code 2 = .ok (.aload_n 0, 1) := by decide +kernel
theorem d_L_rule_3 : decode method_4_code 3 = .ok (.iload_n 1, 1) := by decide +kernel
theorem d_L_rule_4 : decode method_4_code 4 = .ok (.iload_n 2, 1) := by decide +kernel
theorem d_L_rule_5 : decode method_4_code 5 = .ok (.invokevirtual 17, 3) := by decide +kernel
theorem d_L_rule_8 : decode method_4_code 8 = .ok (.i2l, 1) := by decide +kernel
theorem d_L_rule_9 : decode method_4_code 9 = .ok (.lastore, 1) := by decide +kernel
theorem d_L_rule_10 : decode method_4_code 10 = .ok (.goto 7, 3) := by decide +kernel
theorem d_L_rule_13 : decode method_4_code 13 = .ok (.astore 4, 2) := by decide +kernel
theorem d_L_rule_15 : decode method_4_code 15 = .ok (.iconst 1, 1) := by decide +kernel
theorem d_L_rule_16 : decode method_4_code 16 = .ok (.ireturn, 1) := by decide +kernel
theorem d_L_rule_17 : decode method_4_code 17 = .ok (.iconst 0, 1) := by decide +kernel
theorem d_L_rule_18 : decode method_4_code 18 = .ok (.ireturn, 1) := by decide +kernel
theorem cw_L_17 {R : Room} {s : State} {args : Array Value} (hts : ∀ w ∈ AW_, w.before args s = true) (hR : rm_S_rule.frames + 1 ≤ R.frames ∧ 8 + (3 + 11) + rm_S_rule.locals ≤ R.locals) : CallW R s args "StagedParsersLaw" "StagedParsers" 17 y_S_rule prog_1_method_3_code 3 (some .int) w_S_rule rm_S_rule 0 0 2 :=
  ⟨callB_of 2 hts (aw_in kw_548) rfl rfl rfl (hts _ kw_1) (hts _ kw_545) ⟨by decide, by decide, by decide +kernel⟩ hR, hts _ kw_546, hts _ kw_547⟩
theorem cw_L_17_t {R : Room} {s : State} {args : Array Value} (hts : ∀ w ∈ AW_, w.before args s = true) (hR : rm_S_rule_t.frames + 1 ≤ R.frames ∧ 8 + (3 + 11) + rm_S_rule_t.locals ≤ R.locals) : CallW R s args "StagedParsersLaw" "StagedParsers" 17 y_S_rule prog_1_method_3_code 3 (some .int) w_S_rule rm_S_rule_t 1 6 2 :=
  ⟨callB_of 2 hts (aw_in kw_548) rfl rfl rfl (hts _ kw_1) (hts _ kw_545) ⟨by decide, by decide, by decide +kernel⟩ hR, hts _ kw_546, hts _ kw_547⟩
set_option maxHeartbeats 4000000 in
set_option maxRecDepth 100000 in
theorem c_L_rule (l : Launch) (hfl : l.flags = pinnedFlags ++ [noTraceFlag]) (dC : Nat → ClassId) (dI : Nat → Nat → Nat) (q : Nat → Nat) (cA : Nat → ClassId) (pt : Nat) (σ : MZ_) (a1 : Int32) (a2 : Int32) (ou : Nat) (cL : ClassId) (f : Nat → Int64) (k : Int32) (σ2 : MZ_) (f2 : Nat → Int64) (h : (k = 0 ∧ ∃ x, f_S_rule σ a1 a2 = some (x, σ2) ∧ f2 = vp_updL f 0 x.toInt64) ∨ (k = 1 ∧ f2 = f ∧ f_S_rule_t1 σ a1 a2 = some σ2)) : Met l y_L_rule w_L_rule rm_L_rule (va_Pc [.ref (q 0), .int a1, .int a2, .ref ou] (PO_ dC dI q cA pt σ ou cL f)) (QW_ (some (.int k)) (fun H => va_P (dC, dI) cls_ (WO_ q cA σ2 ou cL f2) H) (AO_ q ou)) 1 6 (AO_ q ou) := by
  refine va_MetW (cc := method_4_code) (maxL := 5) (ret := (some .int)) (hh := [(0, 10, 13, 13)]) (by decide) rfl ?_
  intro p e s m args below meth c s₁ B hml hv
  obtain ⟨rfl, ⟨hP, hK, hD, hN, hZ⟩, hE, hO, hKO, hne, hNC⟩ := hv
  have hx := B.exec
  have hb := B.bytes
  have hr := B.returns
  have hts0 := atoms_spec (ws := w_L_rule) B.pre
  have htab := tb_of B (hts0 _ List.mem_cons_self)
  have hts : ∀ w ∈ AW_, w.before _ s = true := fun w h => hts0 w (List.mem_cons_of_mem _ h)
  have hown : s.vm.findClass "StagedParsersLaw" = some m.cls := findClass_of_methodNamed B.named
  have hlocks := B.notSynchronized
  have hS : va_S (AO_ q ou) s.heap s.heap [] := va_S.rf
  have hl := lv_entry ([.ref (q 0), .int a1, .int a2, .ref ou]) (n := 5) (Nat.le_of_ble_eq_true rfl)
  rw [lg_entry_eq]
  generalize (lg_sl ([.ref (q 0), .int a1, .int a2, .ref ou]) ++ List.replicate (5 - (lg_sl ([.ref (q 0), .int a1, .int a2, .ref ou])).length) Slot.unset).toArray = ls at hl ⊢
  have hl : lv_has ls 5 [(0, .ref (q 0)), (1, .int a1), (2, .int a2), (3, .ref ou)] := hl
  refine lv_aload_n hx hb d_L_rule_0 rfl (lv_at hl 3 rfl) ?_
  refine lv_iconst (v := 0) hx hb d_L_rule_1 (by decide) ?_
  refine lv_aload_n hx hb d_L_rule_2 rfl (lv_at hl 0 rfl) ?_
  refine lv_iload_n hx hb d_L_rule_3 rfl (lv_at hl 1 rfl) ?_
  refine lv_iload_n hx hb d_L_rule_4 rfl (lv_at hl 2 rfl) ?_
  rcases h with ⟨rfl, x, hf, rfl⟩ | ⟨rfl, rfl, hf⟩
  · refine cx_wr (va_runV (As := [.int a1, .int a2]) (rest := [.int 0, .ref ou]) ⟨hx, hb, hml, hown, hts⟩ (c_S_rule l dC dI q cA pt σ a1 a2 _ hf) (cw_L_17 hts ⟨Nat.le_of_ble_eq_true rfl, Nat.le_of_ble_eq_true rfl⟩) ⟨pxX_B, va_recv hK hP (ci := 0) (q0 := 0) rfl rfl, pxX_U hP hK hD hN hZ va_S.rf⟩ rfl rfl hl.1 rfl (lv_room (Nat.le_of_ble_eq_true rfl)) d_L_rule_5 ⟨Nat.zero_le _, Nat.zero_le _⟩) hS (fun _ h => Or.inl h) (fun H locs hB hF hS => ?_)
    have hO := ow_kept hO hne hF
    have hP : va_P (dC, dI) cls_ (WO_ q cA σ2 ou cL f) H := va_P.app hB hO
    have hD : va_D (AO_ q ou) (WO_ q cA σ2 ou cL f) := ow_D hD hne σ2 f
    have hK : va_K (dC, dI) cls_ (tyX cA ++ [(cL, .long)]) s := va_K.app hK hKO
    refine lv_i2l hx hb d_L_rule_8 rfl ?_
    refine va_last (ws := WO_ q cA σ2 ou cL f) (tys := tyX cA ++ [(cL, .long)]) hx hb hK hP hD hS 30 23 rfl rfl vi_0 d_L_rule_9 (fun H locs hP _ hS => ?_)
    have hP := ow_up hP
    refine lv_goto (tgt := 17) hx hb d_L_rule_10 rfl ?_
    refine lv_iconst (v := 0) hx hb d_L_rule_17 (by decide) ?_
    refine W.widen (k := 1) (n := 6) (Nat.zero_le _) (Nat.zero_le _) ?_
    exact W.iret hx hb hr (fun t ht hW => ⟨rfl, by rw [ht]; exact hP, hS.F ht⟩) hS.2.2 d_L_rule_18
  · refine cx_thr (X := "java/lang/IllegalArgumentException") (pre := []) (x := (0, 10, 13, 13)) (rst := []) (As := [.int a1, .int a2]) (rest := [.int 0, .ref ou]) ⟨hx, hb, hml, hown, hts⟩ (c_S_rule_t1 l hfl dC dI q cA pt σ a1 a2 _ hf) (cw_L_17_t hts ⟨Nat.le_of_ble_eq_true rfl, Nat.le_of_ble_eq_true rfl⟩) ⟨pt_B, va_recv hK hP (ci := 0) (q0 := 0) rfl rfl, pt_U hP hK hD hN hZ hE va_S.rf⟩ rfl hl.1 rfl (lv_room (Nat.le_of_ble_eq_true rfl)) d_L_rule_5 ⟨Nat.le_of_ble_eq_true rfl, Nat.le_of_ble_eq_true rfl⟩ htab (fun pl t hpl hX => ⟨fun _ h => absurd h List.not_mem_nil, th_yes hpl hown (hts _ kw_422) hX (by decide) (by decide)⟩) hS (fun _ h => Or.inl h) (fun xa H locs hB hF hS => ?_)
    have hO := ow_kept hO hne hF
    have hP : va_P (dC, dI) cls_ (WO_ q cA σ2 ou cL _) H := va_P.app hB hO
    refine lv_astore hx hb d_L_rule_13 hl (by decide) rfl (fun ls hl => ?_)
    refine lv_iconst (v := 1) hx hb d_L_rule_15 (by decide) ?_
    exact W.iret hx hb hr (fun t ht hW => ⟨rfl, by rw [ht]; exact hP, hS.F ht⟩) hS.2.2 d_L_rule_16
def y_L_empty : MethodName := ⟨"StagedParsersLaw", "empty", "(LStagedParsers;I[J)I"⟩
def w_L_empty : List Cond := .codeWith y_L_empty method_5_code 4 (some .int) [(0, 16, 19, 13)] :: AW_
def rm_L_empty : Room := { frames := 7, cells := 1, slots := 6, locals := 130 }
theorem d_L_empty_0 : decode method_5_code 0 = .ok (.aload_n 2, 1) := by decide +kernel
theorem d_L_empty_1 : decode method_5_code 1 = .ok (.iconst 0, 1) := by decide +kernel
theorem d_L_empty_2 : decode method_5_code 2 = .ok (.aload_n 0, 1) := by decide +kernel
theorem d_L_empty_3 : decode method_5_code 3 = .ok (.iload_n 1, 1) := by decide +kernel
theorem d_L_empty_4 : decode method_5_code 4 = .ok (.invokevirtual 21, 3) := by decide +kernel
theorem d_L_empty_7 : decode method_5_code 7 = .ok (.ifCond .eq 7, 3) := by decide +kernel
theorem d_L_empty_10 : decode method_5_code 10 = .ok (.lconst 1, 1) := by decide +kernel
theorem d_L_empty_11 : decode method_5_code 11 = .ok (.goto 4, 3) := by decide +kernel
theorem d_L_empty_14 : decode method_5_code 14 = .ok (.lconst 0, 1) := by decide +kernel
theorem d_L_empty_15 : decode method_5_code 15 = .ok (.lastore, 1) := by decide +kernel
theorem d_L_empty_16 : decode method_5_code 16 = .ok (.goto 6, 3) := by decide +kernel
theorem d_L_empty_19 : decode method_5_code 19 = .ok (.astore_n 3, 1) := by decide +kernel
theorem d_L_empty_20 : decode method_5_code 20 = .ok (.iconst 1, 1) := by decide +kernel
theorem d_L_empty_21 : decode method_5_code 21 = .ok (.ireturn, 1) := by decide +kernel
theorem d_L_empty_22 : decode method_5_code 22 = .ok (.iconst 0, 1) := by decide +kernel
theorem d_L_empty_23 : decode method_5_code 23 = .ok (.ireturn, 1) := by decide +kernel
theorem cw_L_21 {R : Room} {s : State} {args : Array Value} (hts : ∀ w ∈ AW_, w.before args s = true) (hR : rm_S_empty.frames + 1 ≤ R.frames ∧ 8 + (2 + 11) + rm_S_empty.locals ≤ R.locals) : CallW R s args "StagedParsersLaw" "StagedParsers" 21 y_S_empty prog_1_method_5_code 2 (some .boolean) w_S_empty rm_S_empty 0 0 1 :=
  ⟨callB_of 1 hts (aw_in kw_562) rfl rfl rfl (hts _ kw_1) (hts _ kw_559) ⟨by decide, by decide, by decide +kernel⟩ hR, hts _ kw_560, hts _ kw_561⟩
theorem cw_L_21_t {R : Room} {s : State} {args : Array Value} (hts : ∀ w ∈ AW_, w.before args s = true) (hR : rm_S_empty_t.frames + 1 ≤ R.frames ∧ 8 + (2 + 11) + rm_S_empty_t.locals ≤ R.locals) : CallW R s args "StagedParsersLaw" "StagedParsers" 21 y_S_empty prog_1_method_5_code 2 (some .boolean) w_S_empty rm_S_empty_t 1 6 1 :=
  ⟨callB_of 1 hts (aw_in kw_562) rfl rfl rfl (hts _ kw_1) (hts _ kw_559) ⟨by decide, by decide, by decide +kernel⟩ hR, hts _ kw_560, hts _ kw_561⟩
set_option maxHeartbeats 4000000 in
set_option maxRecDepth 100000 in
theorem c_L_empty (l : Launch) (hfl : l.flags = pinnedFlags ++ [noTraceFlag]) (dC : Nat → ClassId) (dI : Nat → Nat → Nat) (q : Nat → Nat) (cA : Nat → ClassId) (pt : Nat) (σ : MZ_) (a1 : Int32) (ou : Nat) (cL : ClassId) (f : Nat → Int64) (k : Int32) (σ2 : MZ_) (f2 : Nat → Int64) (h : (k = 0 ∧ ∃ x, f_S_empty σ a1 = some (x, σ2) ∧ f2 = vp_updL f 0 (if x = 0 then (0 : Int64) else 1)) ∨ (k = 1 ∧ f2 = f ∧ f_S_empty_t1 σ a1 = some σ2)) : Met l y_L_empty w_L_empty rm_L_empty (va_Pc [.ref (q 0), .int a1, .ref ou] (PO_ dC dI q cA pt σ ou cL f)) (QW_ (some (.int k)) (fun H => va_P (dC, dI) cls_ (WO_ q cA σ2 ou cL f2) H) (AO_ q ou)) 1 6 (AO_ q ou) := by
  refine va_MetW (cc := method_5_code) (maxL := 4) (ret := (some .int)) (hh := [(0, 16, 19, 13)]) (by decide) rfl ?_
  intro p e s m args below meth c s₁ B hml hv
  obtain ⟨rfl, ⟨hP, hK, hD, hN, hZ⟩, hE, hO, hKO, hne, hNC⟩ := hv
  have hx := B.exec
  have hb := B.bytes
  have hr := B.returns
  have hts0 := atoms_spec (ws := w_L_empty) B.pre
  have htab := tb_of B (hts0 _ List.mem_cons_self)
  have hts : ∀ w ∈ AW_, w.before _ s = true := fun w h => hts0 w (List.mem_cons_of_mem _ h)
  have hown : s.vm.findClass "StagedParsersLaw" = some m.cls := findClass_of_methodNamed B.named
  have hlocks := B.notSynchronized
  have hS : va_S (AO_ q ou) s.heap s.heap [] := va_S.rf
  have hl := lv_entry ([.ref (q 0), .int a1, .ref ou]) (n := 4) (Nat.le_of_ble_eq_true rfl)
  rw [lg_entry_eq]
  generalize (lg_sl ([.ref (q 0), .int a1, .ref ou]) ++ List.replicate (4 - (lg_sl ([.ref (q 0), .int a1, .ref ou])).length) Slot.unset).toArray = ls at hl ⊢
  have hl : lv_has ls 4 [(0, .ref (q 0)), (1, .int a1), (2, .ref ou)] := hl
  refine lv_aload_n hx hb d_L_empty_0 rfl (lv_at hl 2 rfl) ?_
  refine lv_iconst (v := 0) hx hb d_L_empty_1 (by decide) ?_
  refine lv_aload_n hx hb d_L_empty_2 rfl (lv_at hl 0 rfl) ?_
  refine lv_iload_n hx hb d_L_empty_3 rfl (lv_at hl 1 rfl) ?_
  rcases h with ⟨rfl, x, hf, rfl⟩ | ⟨rfl, rfl, hf⟩
  · refine cx_wr (va_runV (As := [.int a1]) (rest := [.int 0, .ref ou]) ⟨hx, hb, hml, hown, hts⟩ (c_S_empty l dC dI q cA pt σ a1 _ hf) (cw_L_21 hts ⟨Nat.le_of_ble_eq_true rfl, Nat.le_of_ble_eq_true rfl⟩) ⟨pxX_B, va_recv hK hP (ci := 0) (q0 := 0) rfl rfl, pxX_U hP hK hD hN hZ va_S.rf⟩ rfl rfl hl.1 rfl (lv_room (Nat.le_of_ble_eq_true rfl)) d_L_empty_4 ⟨Nat.zero_le _, Nat.zero_le _⟩) hS (fun _ h => Or.inl h) (fun H locs hB hF hS => ?_)
    have hO := ow_kept hO hne hF
    have hP : va_P (dC, dI) cls_ (WO_ q cA σ2 ou cL f) H := va_P.app hB hO
    have hD : va_D (AO_ q ou) (WO_ q cA σ2 ou cL f) := ow_D hD hne σ2 f
    have hK : va_K (dC, dI) cls_ (tyX cA ++ [(cL, .long)]) s := va_K.app hK hKO
    refine lv_if_eq (tgt := 14) hx hb d_L_empty_7 rfl (fun hc => ?_) (fun hc => ?_)
    · rw [if_pos hc]
      refine lv_lconst (v := 0) hx hb d_L_empty_14 (by decide) ?_
      refine va_last (ws := WO_ q cA σ2 ou cL f) (tys := tyX cA ++ [(cL, .long)]) hx hb hK hP hD hS 30 23 rfl rfl vi_0 d_L_empty_15 (fun H locs hP _ hS => ?_)
      have hP := ow_up hP
      refine lv_goto (tgt := 22) hx hb d_L_empty_16 rfl ?_
      refine lv_iconst (v := 0) hx hb d_L_empty_22 (by decide) ?_
      refine W.widen (k := 1) (n := 6) (Nat.zero_le _) (Nat.zero_le _) ?_
      exact W.iret hx hb hr (fun t ht hW => ⟨rfl, by rw [ht]; exact hP, hS.F ht⟩) hS.2.2 d_L_empty_23
    · rw [if_neg hc]
      refine lv_lconst (v := 1) hx hb d_L_empty_10 (by decide) ?_
      refine lv_goto (tgt := 15) hx hb d_L_empty_11 rfl ?_
      refine va_last (ws := WO_ q cA σ2 ou cL f) (tys := tyX cA ++ [(cL, .long)]) hx hb hK hP hD hS 30 23 rfl rfl vi_0 d_L_empty_15 (fun H locs hP _ hS => ?_)
      have hP := ow_up hP
      refine lv_goto (tgt := 22) hx hb d_L_empty_16 rfl ?_
      refine lv_iconst (v := 0) hx hb d_L_empty_22 (by decide) ?_
      refine W.widen (k := 1) (n := 6) (Nat.zero_le _) (Nat.zero_le _) ?_
      exact W.iret hx hb hr (fun t ht hW => ⟨rfl, by rw [ht]; exact hP, hS.F ht⟩) hS.2.2 d_L_empty_23
  · refine cx_thr (X := "java/lang/IllegalArgumentException") (pre := []) (x := (0, 16, 19, 13)) (rst := []) (As := [.int a1]) (rest := [.int 0, .ref ou]) ⟨hx, hb, hml, hown, hts⟩ (c_S_empty_t1 l hfl dC dI q cA pt σ a1 _ hf) (cw_L_21_t hts ⟨Nat.le_of_ble_eq_true rfl, Nat.le_of_ble_eq_true rfl⟩) ⟨pt_B, va_recv hK hP (ci := 0) (q0 := 0) rfl rfl, pt_U hP hK hD hN hZ hE va_S.rf⟩ rfl hl.1 rfl (lv_room (Nat.le_of_ble_eq_true rfl)) d_L_empty_4 ⟨Nat.le_of_ble_eq_true rfl, Nat.le_of_ble_eq_true rfl⟩ htab (fun pl t hpl hX => ⟨fun _ h => absurd h List.not_mem_nil, th_yes hpl hown (hts _ kw_422) hX (by decide) (by decide)⟩) hS (fun _ h => Or.inl h) (fun xa H locs hB hF hS => ?_)
    have hO := ow_kept hO hne hF
    have hP : va_P (dC, dI) cls_ (WO_ q cA σ2 ou cL _) H := va_P.app hB hO
    refine lv_astore_n hx hb d_L_empty_19 rfl hl (by decide) rfl (fun ls hl => ?_)
    refine lv_iconst (v := 1) hx hb d_L_empty_20 (by decide) ?_
    exact W.iret hx hb hr (fun t ht hW => ⟨rfl, by rw [ht]; exact hP, hS.F ht⟩) hS.2.2 d_L_empty_21
def y_L_begins : MethodName := ⟨"StagedParsersLaw", "begins", "(LStagedParsers;II[J)I"⟩
def w_L_begins : List Cond := .codeWith y_L_begins method_6_code 5 (some .int) [(0, 17, 20, 13)] :: AW_
def rm_L_begins : Room := { frames := 7, cells := 1, slots := 6, locals := 134 }
theorem d_L_begins_0 : decode method_6_code 0 = .ok (.aload_n 3, 1) := by decide +kernel
theorem d_L_begins_1 : decode method_6_code 1 = .ok (.iconst 0, 1) := by decide +kernel
theorem d_L_begins_2 : decode method_6_code 2 = .ok (.aload_n 0, 1) := by decide +kernel
theorem d_L_begins_3 : decode method_6_code 3 = .ok (.iload_n 1, 1) := by decide +kernel
theorem d_L_begins_4 : decode method_6_code 4 = .ok (.iload_n 2, 1) := by decide +kernel
theorem d_L_begins_5 : decode method_6_code 5 = .ok (.invokevirtual 25, 3) := by decide +kernel
theorem d_L_begins_8 : decode method_6_code 8 = .ok (.ifCond .eq 7, 3) := by decide +kernel
theorem d_L_begins_11 : decode method_6_code 11 = .ok (.lconst 1, 1) := by decide +kernel
theorem d_L_begins_12 : decode method_6_code 12 = .ok (.goto 4, 3) := by decide +kernel
theorem d_L_begins_15 : decode method_6_code 15 = .ok (.lconst 0, 1) := by decide +kernel
theorem d_L_begins_16 : decode method_6_code 16 = .ok (.lastore, 1) := by decide +kernel
theorem d_L_begins_17 : decode method_6_code 17 = .ok (.goto 7, 3) := by decide +kernel
theorem d_L_begins_20 : decode method_6_code 20 = .ok (.astore 4, 2) := by decide +kernel
theorem d_L_begins_22 : decode method_6_code 22 = .ok (.iconst 1, 1) := by decide +kernel
theorem d_L_begins_23 : decode method_6_code 23 = .ok (.ireturn, 1) := by decide +kernel
theorem d_L_begins_24 : decode method_6_code 24 = .ok (.iconst 0, 1) := by decide +kernel
theorem d_L_begins_25 : decode method_6_code 25 = .ok (.ireturn, 1) := by decide +kernel
theorem cw_L_25 {R : Room} {s : State} {args : Array Value} (hts : ∀ w ∈ AW_, w.before args s = true) (hR : rm_S_begins.frames + 1 ≤ R.frames ∧ 8 + (3 + 11) + rm_S_begins.locals ≤ R.locals) : CallW R s args "StagedParsersLaw" "StagedParsers" 25 y_S_begins prog_1_method_6_code 3 (some .boolean) w_S_begins rm_S_begins 0 0 2 :=
  ⟨callB_of 2 hts (aw_in kw_574) rfl rfl rfl (hts _ kw_1) (hts _ kw_571) ⟨by decide, by decide, by decide +kernel⟩ hR, hts _ kw_572, hts _ kw_573⟩
theorem cw_L_25_t {R : Room} {s : State} {args : Array Value} (hts : ∀ w ∈ AW_, w.before args s = true) (hR : rm_S_begins_t.frames + 1 ≤ R.frames ∧ 8 + (3 + 11) + rm_S_begins_t.locals ≤ R.locals) : CallW R s args "StagedParsersLaw" "StagedParsers" 25 y_S_begins prog_1_method_6_code 3 (some .boolean) w_S_begins rm_S_begins_t 1 6 2 :=
  ⟨callB_of 2 hts (aw_in kw_574) rfl rfl rfl (hts _ kw_1) (hts _ kw_571) ⟨by decide, by decide, by decide +kernel⟩ hR, hts _ kw_572, hts _ kw_573⟩
set_option maxHeartbeats 4000000 in
set_option maxRecDepth 100000 in
theorem c_L_begins (l : Launch) (hfl : l.flags = pinnedFlags ++ [noTraceFlag]) (dC : Nat → ClassId) (dI : Nat → Nat → Nat) (q : Nat → Nat) (cA : Nat → ClassId) (pt : Nat) (σ : MZ_) (a1 : Int32) (a2 : Int32) (ou : Nat) (cL : ClassId) (f : Nat → Int64) (k : Int32) (σ2 : MZ_) (f2 : Nat → Int64) (h : (k = 0 ∧ ∃ x, f_S_begins σ a1 a2 = some (x, σ2) ∧ f2 = vp_updL f 0 (if x = 0 then (0 : Int64) else 1)) ∨ (k = 1 ∧ f2 = f ∧ f_S_begins_t1 σ a1 a2 = some σ2)) : Met l y_L_begins w_L_begins rm_L_begins (va_Pc [.ref (q 0), .int a1, .int a2, .ref ou] (PO_ dC dI q cA pt σ ou cL f)) (QW_ (some (.int k)) (fun H => va_P (dC, dI) cls_ (WO_ q cA σ2 ou cL f2) H) (AO_ q ou)) 1 6 (AO_ q ou) := by
  refine va_MetW (cc := method_6_code) (maxL := 5) (ret := (some .int)) (hh := [(0, 17, 20, 13)]) (by decide) rfl ?_
  intro p e s m args below meth c s₁ B hml hv
  obtain ⟨rfl, ⟨hP, hK, hD, hN, hZ⟩, hE, hO, hKO, hne, hNC⟩ := hv
  have hx := B.exec
  have hb := B.bytes
  have hr := B.returns
  have hts0 := atoms_spec (ws := w_L_begins) B.pre
  have htab := tb_of B (hts0 _ List.mem_cons_self)
  have hts : ∀ w ∈ AW_, w.before _ s = true := fun w h => hts0 w (List.mem_cons_of_mem _ h)
  have hown : s.vm.findClass "StagedParsersLaw" = some m.cls := findClass_of_methodNamed B.named
  have hlocks := B.notSynchronized
  have hS : va_S (AO_ q ou) s.heap s.heap [] := va_S.rf
  have hl := lv_entry ([.ref (q 0), .int a1, .int a2, .ref ou]) (n := 5) (Nat.le_of_ble_eq_true rfl)
  rw [lg_entry_eq]
  generalize (lg_sl ([.ref (q 0), .int a1, .int a2, .ref ou]) ++ List.replicate (5 - (lg_sl ([.ref (q 0), .int a1, .int a2, .ref ou])).length) Slot.unset).toArray = ls at hl ⊢
  have hl : lv_has ls 5 [(0, .ref (q 0)), (1, .int a1), (2, .int a2), (3, .ref ou)] := hl
  refine lv_aload_n hx hb d_L_begins_0 rfl (lv_at hl 3 rfl) ?_
  refine lv_iconst (v := 0) hx hb d_L_begins_1 (by decide) ?_
  refine lv_aload_n hx hb d_L_begins_2 rfl (lv_at hl 0 rfl) ?_
  refine lv_iload_n hx hb d_L_begins_3 rfl (lv_at hl 1 rfl) ?_
  refine lv_iload_n hx hb d_L_begins_4 rfl (lv_at hl 2 rfl) ?_
  rcases h with ⟨rfl, x, hf, rfl⟩ | ⟨rfl, rfl, hf⟩
  · refine cx_wr (va_runV (As := [.int a1, .int a2]) (rest := [.int 0, .ref ou]) ⟨hx, hb, hml, hown, hts⟩ (c_S_begins l dC dI q cA pt σ a1 a2 _ hf) (cw_L_25 hts ⟨Nat.le_of_ble_eq_true rfl, Nat.le_of_ble_eq_true rfl⟩) ⟨pxX_B, va_recv hK hP (ci := 0) (q0 := 0) rfl rfl, pxX_U hP hK hD hN hZ va_S.rf⟩ rfl rfl hl.1 rfl (lv_room (Nat.le_of_ble_eq_true rfl)) d_L_begins_5 ⟨Nat.zero_le _, Nat.zero_le _⟩) hS (fun _ h => Or.inl h) (fun H locs hB hF hS => ?_)
    have hO := ow_kept hO hne hF
    have hP : va_P (dC, dI) cls_ (WO_ q cA σ2 ou cL f) H := va_P.app hB hO
    have hD : va_D (AO_ q ou) (WO_ q cA σ2 ou cL f) := ow_D hD hne σ2 f
    have hK : va_K (dC, dI) cls_ (tyX cA ++ [(cL, .long)]) s := va_K.app hK hKO
    refine lv_if_eq (tgt := 15) hx hb d_L_begins_8 rfl (fun hc => ?_) (fun hc => ?_)
    · rw [if_pos hc]
      refine lv_lconst (v := 0) hx hb d_L_begins_15 (by decide) ?_
      refine va_last (ws := WO_ q cA σ2 ou cL f) (tys := tyX cA ++ [(cL, .long)]) hx hb hK hP hD hS 30 23 rfl rfl vi_0 d_L_begins_16 (fun H locs hP _ hS => ?_)
      have hP := ow_up hP
      refine lv_goto (tgt := 24) hx hb d_L_begins_17 rfl ?_
      refine lv_iconst (v := 0) hx hb d_L_begins_24 (by decide) ?_
      refine W.widen (k := 1) (n := 6) (Nat.zero_le _) (Nat.zero_le _) ?_
      exact W.iret hx hb hr (fun t ht hW => ⟨rfl, by rw [ht]; exact hP, hS.F ht⟩) hS.2.2 d_L_begins_25
    · rw [if_neg hc]
      refine lv_lconst (v := 1) hx hb d_L_begins_11 (by decide) ?_
      refine lv_goto (tgt := 16) hx hb d_L_begins_12 rfl ?_
      refine va_last (ws := WO_ q cA σ2 ou cL f) (tys := tyX cA ++ [(cL, .long)]) hx hb hK hP hD hS 30 23 rfl rfl vi_0 d_L_begins_16 (fun H locs hP _ hS => ?_)
      have hP := ow_up hP
      refine lv_goto (tgt := 24) hx hb d_L_begins_17 rfl ?_
      refine lv_iconst (v := 0) hx hb d_L_begins_24 (by decide) ?_
      refine W.widen (k := 1) (n := 6) (Nat.zero_le _) (Nat.zero_le _) ?_
      exact W.iret hx hb hr (fun t ht hW => ⟨rfl, by rw [ht]; exact hP, hS.F ht⟩) hS.2.2 d_L_begins_25
  · refine cx_thr (X := "java/lang/IllegalArgumentException") (pre := []) (x := (0, 17, 20, 13)) (rst := []) (As := [.int a1, .int a2]) (rest := [.int 0, .ref ou]) ⟨hx, hb, hml, hown, hts⟩ (c_S_begins_t1 l hfl dC dI q cA pt σ a1 a2 _ hf) (cw_L_25_t hts ⟨Nat.le_of_ble_eq_true rfl, Nat.le_of_ble_eq_true rfl⟩) ⟨pt_B, va_recv hK hP (ci := 0) (q0 := 0) rfl rfl, pt_U hP hK hD hN hZ hE va_S.rf⟩ rfl hl.1 rfl (lv_room (Nat.le_of_ble_eq_true rfl)) d_L_begins_5 ⟨Nat.le_of_ble_eq_true rfl, Nat.le_of_ble_eq_true rfl⟩ htab (fun pl t hpl hX => ⟨fun _ h => absurd h List.not_mem_nil, th_yes hpl hown (hts _ kw_422) hX (by decide) (by decide)⟩) hS (fun _ h => Or.inl h) (fun xa H locs hB hF hS => ?_)
    have hO := ow_kept hO hne hF
    have hP : va_P (dC, dI) cls_ (WO_ q cA σ2 ou cL _) H := va_P.app hB hO
    refine lv_astore hx hb d_L_begins_20 hl (by decide) rfl (fun ls hl => ?_)
    refine lv_iconst (v := 1) hx hb d_L_begins_22 (by decide) ?_
    exact W.iret hx hb hr (fun t ht hW => ⟨rfl, by rw [ht]; exact hP, hS.F ht⟩) hS.2.2 d_L_begins_23
def y_L_leads : MethodName := ⟨"StagedParsersLaw", "leads", "(LStagedParsers;I[J)I"⟩
def w_L_leads : List Cond := .codeWith y_L_leads method_7_code 4 (some .int) [(0, 9, 12, 13)] :: AW_
def rm_L_leads : Room := { frames := 7, cells := 1, slots := 6, locals := 152 }
theorem d_L_leads_0 : decode method_7_code 0 = .ok (.aload_n 2, 1) := by decide +kernel
theorem d_L_leads_1 : decode method_7_code 1 = .ok (.iconst 0, 1) := by decide +kernel
theorem d_L_leads_2 : decode method_7_code 2 = .ok (.aload_n 0, 1) := by decide +kernel
theorem d_L_leads_3 : decode method_7_code 3 = .ok (.iload_n 1, 1) := by decide +kernel
theorem d_L_leads_4 : decode method_7_code 4 = .ok (.invokevirtual 29, 3) := by decide +kernel
theorem d_L_leads_7 : decode method_7_code 7 = .ok (.i2l, 1) := by decide +kernel
theorem d_L_leads_8 : decode method_7_code 8 = .ok (.lastore, 1) := by decide +kernel
theorem d_L_leads_9 : decode method_7_code 9 = .ok (.goto 6, 3) := by decide +kernel
theorem d_L_leads_12 : decode method_7_code 12 = .ok (.astore_n 3, 1) := by decide +kernel
theorem d_L_leads_13 : decode method_7_code 13 = .ok (.iconst 1, 1) := by decide +kernel
theorem d_L_leads_14 : decode method_7_code 14 = .ok (.ireturn, 1) := by decide +kernel
theorem d_L_leads_15 : decode method_7_code 15 = .ok (.iconst 0, 1) := by decide +kernel
theorem d_L_leads_16 : decode method_7_code 16 = .ok (.ireturn, 1) := by decide +kernel
theorem cw_L_29 {R : Room} {s : State} {args : Array Value} (hts : ∀ w ∈ AW_, w.before args s = true) (hR : rm_S_leads.frames + 1 ≤ R.frames ∧ 8 + (2 + 11) + rm_S_leads.locals ≤ R.locals) : CallW R s args "StagedParsersLaw" "StagedParsers" 29 y_S_leads prog_1_method_7_code 2 (some .int) w_S_leads rm_S_leads 0 0 1 :=
  ⟨callB_of 1 hts (aw_in kw_595) rfl rfl rfl (hts _ kw_1) (hts _ kw_592) ⟨by decide, by decide, by decide +kernel⟩ hR, hts _ kw_593, hts _ kw_594⟩
theorem cw_L_29_t {R : Room} {s : State} {args : Array Value} (hts : ∀ w ∈ AW_, w.before args s = true) (hR : rm_S_leads_t.frames + 1 ≤ R.frames ∧ 8 + (2 + 11) + rm_S_leads_t.locals ≤ R.locals) : CallW R s args "StagedParsersLaw" "StagedParsers" 29 y_S_leads prog_1_method_7_code 2 (some .int) w_S_leads rm_S_leads_t 1 6 1 :=
  ⟨callB_of 1 hts (aw_in kw_595) rfl rfl rfl (hts _ kw_1) (hts _ kw_592) ⟨by decide, by decide, by decide +kernel⟩ hR, hts _ kw_593, hts _ kw_594⟩
set_option maxHeartbeats 4000000 in
set_option maxRecDepth 100000 in
theorem c_L_leads (l : Launch) (hfl : l.flags = pinnedFlags ++ [noTraceFlag]) (dC : Nat → ClassId) (dI : Nat → Nat → Nat) (q : Nat → Nat) (cA : Nat → ClassId) (pt : Nat) (σ : MZ_) (a1 : Int32) (ou : Nat) (cL : ClassId) (f : Nat → Int64) (k : Int32) (σ2 : MZ_) (f2 : Nat → Int64) (h : (k = 0 ∧ ∃ x, f_S_leads σ a1 = some (x, σ2) ∧ f2 = vp_updL f 0 x.toInt64) ∨ (k = 1 ∧ f2 = f ∧ f_S_leads_t1 σ a1 = some σ2)) : Met l y_L_leads w_L_leads rm_L_leads (va_Pc [.ref (q 0), .int a1, .ref ou] (PO_ dC dI q cA pt σ ou cL f)) (QW_ (some (.int k)) (fun H => va_P (dC, dI) cls_ (WO_ q cA σ2 ou cL f2) H) (AO_ q ou)) 1 6 (AO_ q ou) := by
  refine va_MetW (cc := method_7_code) (maxL := 4) (ret := (some .int)) (hh := [(0, 9, 12, 13)]) (by decide) rfl ?_
  intro p e s m args below meth c s₁ B hml hv
  obtain ⟨rfl, ⟨hP, hK, hD, hN, hZ⟩, hE, hO, hKO, hne, hNC⟩ := hv
  have hx := B.exec
  have hb := B.bytes
  have hr := B.returns
  have hts0 := atoms_spec (ws := w_L_leads) B.pre
  have htab := tb_of B (hts0 _ List.mem_cons_self)
  have hts : ∀ w ∈ AW_, w.before _ s = true := fun w h => hts0 w (List.mem_cons_of_mem _ h)
  have hown : s.vm.findClass "StagedParsersLaw" = some m.cls := findClass_of_methodNamed B.named
  have hlocks := B.notSynchronized
  have hS : va_S (AO_ q ou) s.heap s.heap [] := va_S.rf
  have hl := lv_entry ([.ref (q 0), .int a1, .ref ou]) (n := 4) (Nat.le_of_ble_eq_true rfl)
  rw [lg_entry_eq]
  generalize (lg_sl ([.ref (q 0), .int a1, .ref ou]) ++ List.replicate (4 - (lg_sl ([.ref (q 0), .int a1, .ref ou])).length) Slot.unset).toArray = ls at hl ⊢
  have hl : lv_has ls 4 [(0, .ref (q 0)), (1, .int a1), (2, .ref ou)] := hl
  refine lv_aload_n hx hb d_L_leads_0 rfl (lv_at hl 2 rfl) ?_
  refine lv_iconst (v := 0) hx hb d_L_leads_1 (by decide) ?_
  refine lv_aload_n hx hb d_L_leads_2 rfl (lv_at hl 0 rfl) ?_
  refine lv_iload_n hx hb d_L_leads_3 rfl (lv_at hl 1 rfl) ?_
  rcases h with ⟨rfl, x, hf, rfl⟩ | ⟨rfl, rfl, hf⟩
  · refine cx_wr (va_runV (As := [.int a1]) (rest := [.int 0, .ref ou]) ⟨hx, hb, hml, hown, hts⟩ (c_S_leads l dC dI q cA pt σ a1 _ hf) (cw_L_29 hts ⟨Nat.le_of_ble_eq_true rfl, Nat.le_of_ble_eq_true rfl⟩) ⟨pxX_B, va_recv hK hP (ci := 0) (q0 := 0) rfl rfl, pxX_U hP hK hD hN hZ va_S.rf⟩ rfl rfl hl.1 rfl (lv_room (Nat.le_of_ble_eq_true rfl)) d_L_leads_4 ⟨Nat.zero_le _, Nat.zero_le _⟩) hS (fun _ h => Or.inl h) (fun H locs hB hF hS => ?_)
    have hO := ow_kept hO hne hF
    have hP : va_P (dC, dI) cls_ (WO_ q cA σ2 ou cL f) H := va_P.app hB hO
    have hD : va_D (AO_ q ou) (WO_ q cA σ2 ou cL f) := ow_D hD hne σ2 f
    have hK : va_K (dC, dI) cls_ (tyX cA ++ [(cL, .long)]) s := va_K.app hK hKO
    refine lv_i2l hx hb d_L_leads_7 rfl ?_
    refine va_last (ws := WO_ q cA σ2 ou cL f) (tys := tyX cA ++ [(cL, .long)]) hx hb hK hP hD hS 30 23 rfl rfl vi_0 d_L_leads_8 (fun H locs hP _ hS => ?_)
    have hP := ow_up hP
    refine lv_goto (tgt := 15) hx hb d_L_leads_9 rfl ?_
    refine lv_iconst (v := 0) hx hb d_L_leads_15 (by decide) ?_
    refine W.widen (k := 1) (n := 6) (Nat.zero_le _) (Nat.zero_le _) ?_
    exact W.iret hx hb hr (fun t ht hW => ⟨rfl, by rw [ht]; exact hP, hS.F ht⟩) hS.2.2 d_L_leads_16
  · refine cx_thr (X := "java/lang/IllegalArgumentException") (pre := []) (x := (0, 9, 12, 13)) (rst := []) (As := [.int a1]) (rest := [.int 0, .ref ou]) ⟨hx, hb, hml, hown, hts⟩ (c_S_leads_t1 l hfl dC dI q cA pt σ a1 _ hf) (cw_L_29_t hts ⟨Nat.le_of_ble_eq_true rfl, Nat.le_of_ble_eq_true rfl⟩) ⟨pt_B, va_recv hK hP (ci := 0) (q0 := 0) rfl rfl, pt_U hP hK hD hN hZ hE va_S.rf⟩ rfl hl.1 rfl (lv_room (Nat.le_of_ble_eq_true rfl)) d_L_leads_4 ⟨Nat.le_of_ble_eq_true rfl, Nat.le_of_ble_eq_true rfl⟩ htab (fun pl t hpl hX => ⟨fun _ h => absurd h List.not_mem_nil, th_yes hpl hown (hts _ kw_422) hX (by decide) (by decide)⟩) hS (fun _ h => Or.inl h) (fun xa H locs hB hF hS => ?_)
    have hO := ow_kept hO hne hF
    have hP : va_P (dC, dI) cls_ (WO_ q cA σ2 ou cL _) H := va_P.app hB hO
    refine lv_astore_n hx hb d_L_leads_12 rfl hl (by decide) rfl (fun ls hl => ?_)
    refine lv_iconst (v := 1) hx hb d_L_leads_13 (by decide) ?_
    exact W.iret hx hb hr (fun t ht hW => ⟨rfl, by rw [ht]; exact hP, hS.F ht⟩) hS.2.2 d_L_leads_14
def y_L_type : MethodName := ⟨"StagedParsersLaw", "type", "(LStagedParsers;C[J)I"⟩
def w_L_type : List Cond := .codeWith y_L_type method_8_code 4 (some .int) [(0, 9, 12, 13), (0, 9, 15, 15)] :: AW_
def rm_L_type : Room := { frames := 7, cells := 1, slots := 6, locals := 103 }
theorem d_L_type_0 : decode method_8_code 0 = .ok (.aload_n 2, 1) := by decide +kernel
theorem d_L_type_1 : decode method_8_code 1 = .ok (.iconst 0, 1) := by decide +kernel
theorem d_L_type_2 : decode method_8_code 2 = .ok (.aload_n 0, 1) := by decide +kernel
theorem d_L_type_3 : decode method_8_code 3 = .ok (.iload_n 1, 1) := by decide +kernel
theorem d_L_type_4 : decode method_8_code 4 = .ok (.invokevirtual 33, 3) := by decide +kernel
theorem d_L_type_7 : decode method_8_code 7 = .ok (.i2l, 1) := by decide +kernel
theorem d_L_type_8 : decode method_8_code 8 = .ok (.lastore, 1) := by decide +kernel
theorem d_L_type_9 : decode method_8_code 9 = .ok (.goto 9, 3) := by decide +kernel
theorem d_L_type_12 : decode method_8_code 12 = .ok (.astore_n 3, 1) := by decide +kernel
theorem d_L_type_13 : decode method_8_code 13 = .ok (.iconst 1, 1) := by decide +kernel
theorem d_L_type_14 : decode method_8_code 14 = .ok (.ireturn, 1) := by decide +kernel
theorem d_L_type_15 : decode method_8_code 15 = .ok (.astore_n 3, 1) := by decide +kernel
theorem d_L_type_16 : decode method_8_code 16 = .ok (.iconst 2, 1) := by decide +kernel
theorem d_L_type_17 : decode method_8_code 17 = .ok (.ireturn, 1) := by decide +kernel
theorem d_L_type_18 : decode method_8_code 18 = .ok (.iconst 0, 1) := by decide +kernel
theorem d_L_type_19 : decode method_8_code 19 = .ok (.ireturn, 1) := by decide +kernel
theorem cw_L_33 {R : Room} {s : State} {args : Array Value} (hts : ∀ w ∈ AW_, w.before args s = true) (hR : rm_S_type.frames + 1 ≤ R.frames ∧ 8 + (2 + 11) + rm_S_type.locals ≤ R.locals) : CallW R s args "StagedParsersLaw" "StagedParsers" 33 y_S_type prog_1_method_8_code 2 (some .int) w_S_type rm_S_type 0 0 1 :=
  ⟨callB_of 1 hts (aw_in kw_607) rfl rfl rfl (hts _ kw_1) (hts _ kw_604) ⟨by decide, by decide, by decide +kernel⟩ hR, hts _ kw_605, hts _ kw_606⟩
theorem cw_L_33_t {R : Room} {s : State} {args : Array Value} (hts : ∀ w ∈ AW_, w.before args s = true) (hR : rm_S_type_t.frames + 1 ≤ R.frames ∧ 8 + (2 + 11) + rm_S_type_t.locals ≤ R.locals) : CallW R s args "StagedParsersLaw" "StagedParsers" 33 y_S_type prog_1_method_8_code 2 (some .int) w_S_type rm_S_type_t 1 6 1 :=
  ⟨callB_of 1 hts (aw_in kw_607) rfl rfl rfl (hts _ kw_1) (hts _ kw_604) ⟨by decide, by decide, by decide +kernel⟩ hR, hts _ kw_605, hts _ kw_606⟩
set_option maxHeartbeats 4000000 in
set_option maxRecDepth 100000 in
theorem c_L_type (l : Launch) (hfl : l.flags = pinnedFlags ++ [noTraceFlag]) (dC : Nat → ClassId) (dI : Nat → Nat → Nat) (q : Nat → Nat) (cA : Nat → ClassId) (pt : Nat) (σ : MZ_) (a1 : Int32) (ou : Nat) (cL : ClassId) (f : Nat → Int64) (k : Int32) (σ2 : MZ_) (f2 : Nat → Int64) (h : (k = 0 ∧ ∃ x, f_S_type σ a1 = some (x, σ2) ∧ f2 = vp_updL f 0 x.toInt64) ∨ (k = 1 ∧ f2 = f ∧ f_S_type_t1 σ a1 = some σ2) ∨ (k = 2 ∧ f2 = f ∧ f_S_type_t2 σ a1 = some σ2)) : Met l y_L_type w_L_type rm_L_type (va_Pc [.ref (q 0), .int a1, .ref ou] (PO_ dC dI q cA pt σ ou cL f)) (QW_ (some (.int k)) (fun H => va_P (dC, dI) cls_ (WO_ q cA σ2 ou cL f2) H) (AO_ q ou)) 1 6 (AO_ q ou) := by
  refine va_MetW (cc := method_8_code) (maxL := 4) (ret := (some .int)) (hh := [(0, 9, 12, 13), (0, 9, 15, 15)]) (by decide) rfl ?_
  intro p e s m args below meth c s₁ B hml hv
  obtain ⟨rfl, ⟨hP, hK, hD, hN, hZ⟩, hE, hO, hKO, hne, hNC⟩ := hv
  have hx := B.exec
  have hb := B.bytes
  have hr := B.returns
  have hts0 := atoms_spec (ws := w_L_type) B.pre
  have htab := tb_of B (hts0 _ List.mem_cons_self)
  have hts : ∀ w ∈ AW_, w.before _ s = true := fun w h => hts0 w (List.mem_cons_of_mem _ h)
  have hown : s.vm.findClass "StagedParsersLaw" = some m.cls := findClass_of_methodNamed B.named
  have hlocks := B.notSynchronized
  have hS : va_S (AO_ q ou) s.heap s.heap [] := va_S.rf
  have hl := lv_entry ([.ref (q 0), .int a1, .ref ou]) (n := 4) (Nat.le_of_ble_eq_true rfl)
  rw [lg_entry_eq]
  generalize (lg_sl ([.ref (q 0), .int a1, .ref ou]) ++ List.replicate (4 - (lg_sl ([.ref (q 0), .int a1, .ref ou])).length) Slot.unset).toArray = ls at hl ⊢
  have hl : lv_has ls 4 [(0, .ref (q 0)), (1, .int a1), (2, .ref ou)] := hl
  refine lv_aload_n hx hb d_L_type_0 rfl (lv_at hl 2 rfl) ?_
  refine lv_iconst (v := 0) hx hb d_L_type_1 (by decide) ?_
  refine lv_aload_n hx hb d_L_type_2 rfl (lv_at hl 0 rfl) ?_
  refine lv_iload_n hx hb d_L_type_3 rfl (lv_at hl 1 rfl) ?_
  rcases h with ⟨rfl, x, hf, rfl⟩ | ⟨rfl, rfl, hf⟩ | ⟨rfl, rfl, hf⟩
  · refine cx_wr (va_runV (As := [.int a1]) (rest := [.int 0, .ref ou]) ⟨hx, hb, hml, hown, hts⟩ (c_S_type l dC dI q cA pt σ a1 _ hf) (cw_L_33 hts ⟨Nat.le_of_ble_eq_true rfl, Nat.le_of_ble_eq_true rfl⟩) ⟨pxX_B, va_recv hK hP (ci := 0) (q0 := 0) rfl rfl, pxX_U hP hK hD hN hZ va_S.rf⟩ rfl rfl hl.1 rfl (lv_room (Nat.le_of_ble_eq_true rfl)) d_L_type_4 ⟨Nat.zero_le _, Nat.zero_le _⟩) hS (fun _ h => Or.inl h) (fun H locs hB hF hS => ?_)
    have hO := ow_kept hO hne hF
    have hP : va_P (dC, dI) cls_ (WO_ q cA σ2 ou cL f) H := va_P.app hB hO
    have hD : va_D (AO_ q ou) (WO_ q cA σ2 ou cL f) := ow_D hD hne σ2 f
    have hK : va_K (dC, dI) cls_ (tyX cA ++ [(cL, .long)]) s := va_K.app hK hKO
    refine lv_i2l hx hb d_L_type_7 rfl ?_
    refine va_last (ws := WO_ q cA σ2 ou cL f) (tys := tyX cA ++ [(cL, .long)]) hx hb hK hP hD hS 30 23 rfl rfl vi_0 d_L_type_8 (fun H locs hP _ hS => ?_)
    have hP := ow_up hP
    refine lv_goto (tgt := 18) hx hb d_L_type_9 rfl ?_
    refine lv_iconst (v := 0) hx hb d_L_type_18 (by decide) ?_
    refine W.widen (k := 1) (n := 6) (Nat.zero_le _) (Nat.zero_le _) ?_
    exact W.iret hx hb hr (fun t ht hW => ⟨rfl, by rw [ht]; exact hP, hS.F ht⟩) hS.2.2 d_L_type_19
  · refine cx_thr (X := "java/lang/IllegalArgumentException") (pre := []) (x := (0, 9, 12, 13)) (rst := [(0, 9, 15, 15)]) (As := [.int a1]) (rest := [.int 0, .ref ou]) ⟨hx, hb, hml, hown, hts⟩ (c_S_type_t1 l hfl dC dI q cA pt σ a1 _ hf) (cw_L_33_t hts ⟨Nat.le_of_ble_eq_true rfl, Nat.le_of_ble_eq_true rfl⟩) ⟨pt_B, va_recv hK hP (ci := 0) (q0 := 0) rfl rfl, pt_U hP hK hD hN hZ hE va_S.rf⟩ rfl hl.1 rfl (lv_room (Nat.le_of_ble_eq_true rfl)) d_L_type_4 ⟨Nat.le_of_ble_eq_true rfl, Nat.le_of_ble_eq_true rfl⟩ htab (fun pl t hpl hX => ⟨fun _ h => absurd h List.not_mem_nil, th_yes hpl hown (hts _ kw_422) hX (by decide) (by decide)⟩) hS (fun _ h => Or.inl h) (fun xa H locs hB hF hS => ?_)
    have hO := ow_kept hO hne hF
    have hP : va_P (dC, dI) cls_ (WO_ q cA σ2 ou cL _) H := va_P.app hB hO
    refine lv_astore_n hx hb d_L_type_12 rfl hl (by decide) rfl (fun ls hl => ?_)
    refine lv_iconst (v := 1) hx hb d_L_type_13 (by decide) ?_
    exact W.iret hx hb hr (fun t ht hW => ⟨rfl, by rw [ht]; exact hP, hS.F ht⟩) hS.2.2 d_L_type_14
  · refine cx_thr (X := "java/lang/IllegalStateException") (pre := [(0, 9, 12, 13)]) (x := (0, 9, 15, 15)) (rst := []) (As := [.int a1]) (rest := [.int 0, .ref ou]) ⟨hx, hb, hml, hown, hts⟩ (c_S_type_t2 l hfl dC dI q cA pt σ a1 _ hf) (cw_L_33_t hts ⟨Nat.le_of_ble_eq_true rfl, Nat.le_of_ble_eq_true rfl⟩) ⟨pt_B, va_recv hK hP (ci := 0) (q0 := 0) rfl rfl, pt_U hP hK hD hN hZ hE va_S.rf⟩ rfl hl.1 rfl (lv_room (Nat.le_of_ble_eq_true rfl)) d_L_type_4 ⟨Nat.le_of_ble_eq_true rfl, Nat.le_of_ble_eq_true rfl⟩ htab (fun pl t hpl hX => ⟨List.forall_mem_cons.mpr ⟨th_no hpl hown (hts _ kw_422) hX (hNC _ (List.mem_of_getElem? (i := 0) rfl)) (by decide) (by decide), fun _ h => absurd h List.not_mem_nil⟩, th_yes hpl hown (hts _ kw_423) hX (by decide) (by decide)⟩) hS (fun _ h => Or.inl h) (fun xa H locs hB hF hS => ?_)
    have hO := ow_kept hO hne hF
    have hP : va_P (dC, dI) cls_ (WO_ q cA σ2 ou cL _) H := va_P.app hB hO
    refine lv_astore_n hx hb d_L_type_15 rfl hl (by decide) rfl (fun ls hl => ?_)
    refine lv_iconst (v := 2) hx hb d_L_type_16 (by decide) ?_
    exact W.iret hx hb hr (fun t ht hW => ⟨rfl, by rw [ht]; exact hP, hS.F ht⟩) hS.2.2 d_L_type_17
def y_L_parse : MethodName := ⟨"StagedParsersLaw", "parse", "(LStagedParsers;I[J)I"⟩
def w_L_parse : List Cond := .codeWith y_L_parse method_9_code 4 (some .int) [(0, 9, 12, 15), (0, 9, 15, 13), (0, 9, 18, 40), (0, 9, 21, 42)] :: AW_
def rm_L_parse : Room := { frames := 7, cells := 1, slots := 6, locals := 154 }
theorem d_L_parse_0 : decode method_9_code 0 = .ok (.aload_n 2, 1) := by decide +kernel
theorem d_L_parse_1 : decode method_9_code 1 = .ok (.iconst 0, 1) := by decide +kernel
theorem d_L_parse_2 : decode method_9_code 2 = .ok (.aload_n 0, 1) := by decide +kernel
theorem d_L_parse_3 : decode method_9_code 3 = .ok (.iload_n 1, 1) := by decide +kernel
theorem d_L_parse_4 : decode method_9_code 4 = .ok (.invokevirtual 37, 3) := by decide +kernel
theorem d_L_parse_7 : decode method_9_code 7 = .ok (.i2l, 1) := by decide +kernel
theorem d_L_parse_8 : decode method_9_code 8 = .ok (.lastore, 1) := by decide +kernel
theorem d_L_parse_9 : decode method_9_code 9 = .ok (.goto 15, 3) := by decide +kernel
theorem d_L_parse_12 : decode method_9_code 12 = .ok (.astore_n 3, 1) := by decide +kernel
theorem d_L_parse_13 : decode method_9_code 13 = .ok (.iconst 1, 1) := by decide +kernel
theorem d_L_parse_14 : decode method_9_code 14 = .ok (.ireturn, 1) := by decide +kernel
theorem d_L_parse_15 : decode method_9_code 15 = .ok (.astore_n 3, 1) := by decide +kernel
theorem d_L_parse_16 : decode method_9_code 16 = .ok (.iconst 2, 1) := by decide +kernel
theorem d_L_parse_17 : decode method_9_code 17 = .ok (.ireturn, 1) := by decide +kernel
theorem d_L_parse_18 : decode method_9_code 18 = .ok (.astore_n 3, 1) := by decide +kernel
theorem d_L_parse_19 : decode method_9_code 19 = .ok (.iconst 3, 1) := by decide +kernel
theorem d_L_parse_20 : decode method_9_code 20 = .ok (.ireturn, 1) := by decide +kernel
theorem d_L_parse_21 : decode method_9_code 21 = .ok (.astore_n 3, 1) := by decide +kernel
theorem d_L_parse_22 : decode method_9_code 22 = .ok (.iconst 4, 1) := by decide +kernel
theorem d_L_parse_23 : decode method_9_code 23 = .ok (.ireturn, 1) := by decide +kernel
theorem d_L_parse_24 : decode method_9_code 24 = .ok (.iconst 0, 1) := by decide +kernel
theorem d_L_parse_25 : decode method_9_code 25 = .ok (.ireturn, 1) := by decide +kernel
theorem cw_L_37 {R : Room} {s : State} {args : Array Value} (hts : ∀ w ∈ AW_, w.before args s = true) (hR : rm_S_parse.frames + 1 ≤ R.frames ∧ 8 + (2 + 11) + rm_S_parse.locals ≤ R.locals) : CallW R s args "StagedParsersLaw" "StagedParsers" 37 y_S_parse prog_1_method_10_code 2 (some .int) w_S_parse rm_S_parse 0 0 1 :=
  ⟨callB_of 1 hts (aw_in kw_626) rfl rfl rfl (hts _ kw_1) (hts _ kw_623) ⟨by decide, by decide, by decide +kernel⟩ hR, hts _ kw_624, hts _ kw_625⟩
theorem cw_L_37_t {R : Room} {s : State} {args : Array Value} (hts : ∀ w ∈ AW_, w.before args s = true) (hR : rm_S_parse_t.frames + 1 ≤ R.frames ∧ 8 + (2 + 11) + rm_S_parse_t.locals ≤ R.locals) : CallW R s args "StagedParsersLaw" "StagedParsers" 37 y_S_parse prog_1_method_10_code 2 (some .int) w_S_parse rm_S_parse_t 1 6 1 :=
  ⟨callB_of 1 hts (aw_in kw_626) rfl rfl rfl (hts _ kw_1) (hts _ kw_623) ⟨by decide, by decide, by decide +kernel⟩ hR, hts _ kw_624, hts _ kw_625⟩
set_option maxHeartbeats 4000000 in
set_option maxRecDepth 100000 in
theorem c_L_parse (l : Launch) (hfl : l.flags = pinnedFlags ++ [noTraceFlag]) (dC : Nat → ClassId) (dI : Nat → Nat → Nat) (q : Nat → Nat) (cA : Nat → ClassId) (pt : Nat) (σ : MZ_) (a1 : Int32) (ou : Nat) (cL : ClassId) (f : Nat → Int64) (k : Int32) (σ2 : MZ_) (f2 : Nat → Int64) (h : (k = 0 ∧ ∃ x, f_S_parse σ a1 = some (x, σ2) ∧ f2 = vp_updL f 0 x.toInt64) ∨ (k = 1 ∧ f2 = f ∧ f_S_parse_t1 σ a1 = some σ2) ∨ (k = 2 ∧ f2 = f ∧ f_S_parse_t2 σ a1 = some σ2) ∨ (k = 3 ∧ f2 = f ∧ f_S_parse_t3 σ a1 = some σ2) ∨ (k = 4 ∧ f2 = f ∧ f_S_parse_t4 σ a1 = some σ2)) : Met l y_L_parse w_L_parse rm_L_parse (va_Pc [.ref (q 0), .int a1, .ref ou] (PO_ dC dI q cA pt σ ou cL f)) (QW_ (some (.int k)) (fun H => va_P (dC, dI) cls_ (WO_ q cA σ2 ou cL f2) H) (AO_ q ou)) 1 6 (AO_ q ou) := by
  refine va_MetW (cc := method_9_code) (maxL := 4) (ret := (some .int)) (hh := [(0, 9, 12, 15), (0, 9, 15, 13), (0, 9, 18, 40), (0, 9, 21, 42)]) (by decide) rfl ?_
  intro p e s m args below meth c s₁ B hml hv
  obtain ⟨rfl, ⟨hP, hK, hD, hN, hZ⟩, hE, hO, hKO, hne, hNC⟩ := hv
  have hx := B.exec
  have hb := B.bytes
  have hr := B.returns
  have hts0 := atoms_spec (ws := w_L_parse) B.pre
  have htab := tb_of B (hts0 _ List.mem_cons_self)
  have hts : ∀ w ∈ AW_, w.before _ s = true := fun w h => hts0 w (List.mem_cons_of_mem _ h)
  have hown : s.vm.findClass "StagedParsersLaw" = some m.cls := findClass_of_methodNamed B.named
  have hlocks := B.notSynchronized
  have hS : va_S (AO_ q ou) s.heap s.heap [] := va_S.rf
  have hl := lv_entry ([.ref (q 0), .int a1, .ref ou]) (n := 4) (Nat.le_of_ble_eq_true rfl)
  rw [lg_entry_eq]
  generalize (lg_sl ([.ref (q 0), .int a1, .ref ou]) ++ List.replicate (4 - (lg_sl ([.ref (q 0), .int a1, .ref ou])).length) Slot.unset).toArray = ls at hl ⊢
  have hl : lv_has ls 4 [(0, .ref (q 0)), (1, .int a1), (2, .ref ou)] := hl
  refine lv_aload_n hx hb d_L_parse_0 rfl (lv_at hl 2 rfl) ?_
  refine lv_iconst (v := 0) hx hb d_L_parse_1 (by decide) ?_
  refine lv_aload_n hx hb d_L_parse_2 rfl (lv_at hl 0 rfl) ?_
  refine lv_iload_n hx hb d_L_parse_3 rfl (lv_at hl 1 rfl) ?_
  rcases h with ⟨rfl, x, hf, rfl⟩ | ⟨rfl, rfl, hf⟩ | ⟨rfl, rfl, hf⟩ | ⟨rfl, rfl, hf⟩ | ⟨rfl, rfl, hf⟩
  · refine cx_wr (va_runV (As := [.int a1]) (rest := [.int 0, .ref ou]) ⟨hx, hb, hml, hown, hts⟩ (c_S_parse l dC dI q cA pt σ a1 _ hf) (cw_L_37 hts ⟨Nat.le_of_ble_eq_true rfl, Nat.le_of_ble_eq_true rfl⟩) ⟨pxX_B, va_recv hK hP (ci := 0) (q0 := 0) rfl rfl, pxX_U hP hK hD hN hZ va_S.rf⟩ rfl rfl hl.1 rfl (lv_room (Nat.le_of_ble_eq_true rfl)) d_L_parse_4 ⟨Nat.zero_le _, Nat.zero_le _⟩) hS (fun _ h => Or.inl h) (fun H locs hB hF hS => ?_)
    have hO := ow_kept hO hne hF
    have hP : va_P (dC, dI) cls_ (WO_ q cA σ2 ou cL f) H := va_P.app hB hO
    have hD : va_D (AO_ q ou) (WO_ q cA σ2 ou cL f) := ow_D hD hne σ2 f
    have hK : va_K (dC, dI) cls_ (tyX cA ++ [(cL, .long)]) s := va_K.app hK hKO
    refine lv_i2l hx hb d_L_parse_7 rfl ?_
    refine va_last (ws := WO_ q cA σ2 ou cL f) (tys := tyX cA ++ [(cL, .long)]) hx hb hK hP hD hS 30 23 rfl rfl vi_0 d_L_parse_8 (fun H locs hP _ hS => ?_)
    have hP := ow_up hP
    refine lv_goto (tgt := 24) hx hb d_L_parse_9 rfl ?_
    refine lv_iconst (v := 0) hx hb d_L_parse_24 (by decide) ?_
    refine W.widen (k := 1) (n := 6) (Nat.zero_le _) (Nat.zero_le _) ?_
    exact W.iret hx hb hr (fun t ht hW => ⟨rfl, by rw [ht]; exact hP, hS.F ht⟩) hS.2.2 d_L_parse_25
  · refine cx_thr (X := "java/lang/IllegalStateException") (pre := []) (x := (0, 9, 12, 15)) (rst := [(0, 9, 15, 13), (0, 9, 18, 40), (0, 9, 21, 42)]) (As := [.int a1]) (rest := [.int 0, .ref ou]) ⟨hx, hb, hml, hown, hts⟩ (c_S_parse_t1 l hfl dC dI q cA pt σ a1 _ hf) (cw_L_37_t hts ⟨Nat.le_of_ble_eq_true rfl, Nat.le_of_ble_eq_true rfl⟩) ⟨pt_B, va_recv hK hP (ci := 0) (q0 := 0) rfl rfl, pt_U hP hK hD hN hZ hE va_S.rf⟩ rfl hl.1 rfl (lv_room (Nat.le_of_ble_eq_true rfl)) d_L_parse_4 ⟨Nat.le_of_ble_eq_true rfl, Nat.le_of_ble_eq_true rfl⟩ htab (fun pl t hpl hX => ⟨fun _ h => absurd h List.not_mem_nil, th_yes hpl hown (hts _ kw_423) hX (by decide) (by decide)⟩) hS (fun _ h => Or.inl h) (fun xa H locs hB hF hS => ?_)
    have hO := ow_kept hO hne hF
    have hP : va_P (dC, dI) cls_ (WO_ q cA σ2 ou cL _) H := va_P.app hB hO
    refine lv_astore_n hx hb d_L_parse_12 rfl hl (by decide) rfl (fun ls hl => ?_)
    refine lv_iconst (v := 1) hx hb d_L_parse_13 (by decide) ?_
    exact W.iret hx hb hr (fun t ht hW => ⟨rfl, by rw [ht]; exact hP, hS.F ht⟩) hS.2.2 d_L_parse_14
  · refine cx_thr (X := "java/lang/IllegalArgumentException") (pre := [(0, 9, 12, 15)]) (x := (0, 9, 15, 13)) (rst := [(0, 9, 18, 40), (0, 9, 21, 42)]) (As := [.int a1]) (rest := [.int 0, .ref ou]) ⟨hx, hb, hml, hown, hts⟩ (c_S_parse_t2 l hfl dC dI q cA pt σ a1 _ hf) (cw_L_37_t hts ⟨Nat.le_of_ble_eq_true rfl, Nat.le_of_ble_eq_true rfl⟩) ⟨pt_B, va_recv hK hP (ci := 0) (q0 := 0) rfl rfl, pt_U hP hK hD hN hZ hE va_S.rf⟩ rfl hl.1 rfl (lv_room (Nat.le_of_ble_eq_true rfl)) d_L_parse_4 ⟨Nat.le_of_ble_eq_true rfl, Nat.le_of_ble_eq_true rfl⟩ htab (fun pl t hpl hX => ⟨List.forall_mem_cons.mpr ⟨th_no hpl hown (hts _ kw_423) hX (hNC _ (List.mem_of_getElem? (i := 1) rfl)) (by decide) (by decide), fun _ h => absurd h List.not_mem_nil⟩, th_yes hpl hown (hts _ kw_422) hX (by decide) (by decide)⟩) hS (fun _ h => Or.inl h) (fun xa H locs hB hF hS => ?_)
    have hO := ow_kept hO hne hF
    have hP : va_P (dC, dI) cls_ (WO_ q cA σ2 ou cL _) H := va_P.app hB hO
    refine lv_astore_n hx hb d_L_parse_15 rfl hl (by decide) rfl (fun ls hl => ?_)
    refine lv_iconst (v := 2) hx hb d_L_parse_16 (by decide) ?_
    exact W.iret hx hb hr (fun t ht hW => ⟨rfl, by rw [ht]; exact hP, hS.F ht⟩) hS.2.2 d_L_parse_17
  · refine cx_thr (X := "java/lang/UnsupportedOperationException") (pre := [(0, 9, 12, 15), (0, 9, 15, 13)]) (x := (0, 9, 18, 40)) (rst := [(0, 9, 21, 42)]) (As := [.int a1]) (rest := [.int 0, .ref ou]) ⟨hx, hb, hml, hown, hts⟩ (c_S_parse_t3 l hfl dC dI q cA pt σ a1 _ hf) (cw_L_37_t hts ⟨Nat.le_of_ble_eq_true rfl, Nat.le_of_ble_eq_true rfl⟩) ⟨pt_B, va_recv hK hP (ci := 0) (q0 := 0) rfl rfl, pt_U hP hK hD hN hZ hE va_S.rf⟩ rfl hl.1 rfl (lv_room (Nat.le_of_ble_eq_true rfl)) d_L_parse_4 ⟨Nat.le_of_ble_eq_true rfl, Nat.le_of_ble_eq_true rfl⟩ htab (fun pl t hpl hX => ⟨List.forall_mem_cons.mpr ⟨th_no hpl hown (hts _ kw_423) hX (hNC _ (List.mem_of_getElem? (i := 2) rfl)) (by decide) (by decide), List.forall_mem_cons.mpr ⟨th_no hpl hown (hts _ kw_422) hX (hNC _ (List.mem_of_getElem? (i := 3) rfl)) (by decide) (by decide), fun _ h => absurd h List.not_mem_nil⟩⟩, th_yes hpl hown (hts _ kw_621) hX (by decide) (by decide)⟩) hS (fun _ h => Or.inl h) (fun xa H locs hB hF hS => ?_)
    have hO := ow_kept hO hne hF
    have hP : va_P (dC, dI) cls_ (WO_ q cA σ2 ou cL _) H := va_P.app hB hO
    refine lv_astore_n hx hb d_L_parse_18 rfl hl (by decide) rfl (fun ls hl => ?_)
    refine lv_iconst (v := 3) hx hb d_L_parse_19 (by decide) ?_
    exact W.iret hx hb hr (fun t ht hW => ⟨rfl, by rw [ht]; exact hP, hS.F ht⟩) hS.2.2 d_L_parse_20
  · refine cx_thr (X := "java/util/NoSuchElementException") (pre := [(0, 9, 12, 15), (0, 9, 15, 13), (0, 9, 18, 40)]) (x := (0, 9, 21, 42)) (rst := []) (As := [.int a1]) (rest := [.int 0, .ref ou]) ⟨hx, hb, hml, hown, hts⟩ (c_S_parse_t4 l hfl dC dI q cA pt σ a1 _ hf) (cw_L_37_t hts ⟨Nat.le_of_ble_eq_true rfl, Nat.le_of_ble_eq_true rfl⟩) ⟨pt_B, va_recv hK hP (ci := 0) (q0 := 0) rfl rfl, pt_U hP hK hD hN hZ hE va_S.rf⟩ rfl hl.1 rfl (lv_room (Nat.le_of_ble_eq_true rfl)) d_L_parse_4 ⟨Nat.le_of_ble_eq_true rfl, Nat.le_of_ble_eq_true rfl⟩ htab (fun pl t hpl hX => ⟨List.forall_mem_cons.mpr ⟨th_no hpl hown (hts _ kw_423) hX (hNC _ (List.mem_of_getElem? (i := 4) rfl)) (by decide) (by decide), List.forall_mem_cons.mpr ⟨th_no hpl hown (hts _ kw_422) hX (hNC _ (List.mem_of_getElem? (i := 5) rfl)) (by decide) (by decide), List.forall_mem_cons.mpr ⟨th_no hpl hown (hts _ kw_621) hX (hNC _ (List.mem_of_getElem? (i := 6) rfl)) (by decide) (by decide), fun _ h => absurd h List.not_mem_nil⟩⟩⟩, th_yes hpl hown (hts _ kw_622) hX (by decide) (by decide)⟩) hS (fun _ h => Or.inl h) (fun xa H locs hB hF hS => ?_)
    have hO := ow_kept hO hne hF
    have hP : va_P (dC, dI) cls_ (WO_ q cA σ2 ou cL _) H := va_P.app hB hO
    refine lv_astore_n hx hb d_L_parse_21 rfl hl (by decide) rfl (fun ls hl => ?_)
    refine lv_iconst (v := 4) hx hb d_L_parse_22 (by decide) ?_
    exact W.iret hx hb hr (fun t ht hW => ⟨rfl, by rw [ht]; exact hP, hS.F ht⟩) hS.2.2 d_L_parse_23
