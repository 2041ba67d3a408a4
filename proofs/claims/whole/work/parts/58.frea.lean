/-! the face, where something may be thrown: the roads that return -/
def y_S_node : MethodName := ⟨"StagedParsers", "node", "(IIII)I"⟩
def w_S_node : List Cond := .code y_S_node prog_1_method_2_code 5 (some .int) :: AW_
def rm_S_node : Room := { frames := 4, cells := 0, slots := 0, locals := 91 }
def rm_S_node_t : Room := { frames := 6, cells := 1, slots := 6, locals := 91 }
theorem d_S_node_0 : decode prog_1_method_2_code 0 = .ok (.aload_n 0, 1) := by decide +kernel
theorem d_S_node_1 : decode prog_1_method_2_code 1 = .ok (.getfield 12, 3) := by decide +kernel
theorem d_S_node_4 : decode prog_1_method_2_code 4 = .ok (.iload_n 1, 1) := by decide +kernel
theorem d_S_node_5 : decode prog_1_method_2_code 5 = .ok (.iload_n 2, 1) := by decide +kernel
theorem d_S_node_6 : decode prog_1_method_2_code 6 = .ok (.iload_n 3, 1) := by decide +kernel
theorem d_S_node_7 : decode prog_1_method_2_code 7 = .ok (.iload 4, 2) := by decide +kernel
theorem d_S_node_9 : decode prog_1_method_2_code 9 = .ok (.invokevirtual 52, 3) := by decide +kernel
theorem d_S_node_12 : decode prog_1_method_2_code 12 = .ok (.ifCond .ne 13, 3) := by decide +kernel
theorem d_S_node_25 : decode prog_1_method_2_code 25 = .ok (.aload_n 0, 1) := by decide +kernel
theorem d_S_node_26 : decode prog_1_method_2_code 26 = .ok (.getfield 12, 3) := by decide +kernel
theorem d_S_node_29 : decode prog_1_method_2_code 29 = .ok (.invokevirtual 63, 3) := by decide +kernel
theorem d_S_node_32 : decode prog_1_method_2_code 32 = .ok (.ifCond .eq 13, 3) := by decide +kernel
theorem d_S_node_45 : decode prog_1_method_2_code 45 = .ok (.aload_n 0, 1) := by decide +kernel
theorem d_S_node_46 : decode prog_1_method_2_code 46 = .ok (.getfield 12, 3) := by decide +kernel
theorem d_S_node_49 : decode prog_1_method_2_code 49 = .ok (.iload_n 1, 1) := by decide +kernel
theorem d_S_node_50 : decode prog_1_method_2_code 50 = .ok (.iload_n 2, 1) := by decide +kernel
theorem d_S_node_51 : decode prog_1_method_2_code 51 = .ok (.iload_n 3, 1) := by decide +kernel
theorem d_S_node_52 : decode prog_1_method_2_code 52 = .ok (.iload 4, 2) := by decide +kernel
theorem d_S_node_54 : decode prog_1_method_2_code 54 = .ok (.invokevirtual 72, 3) := by decide +kernel
theorem d_S_node_57 : decode prog_1_method_2_code 57 = .ok (.ireturn, 1) := by decide +kernel
section RW
variable {p : Program} {l : Launch} {e : Env} {R : Room} {s : State} {m : MethodId} {args : Array Value} {below : List Frame} {meth : Method} {c : Code} {H : Heap} {locs : List Loc} {cells slots : Nat} {Q : State → Prop}
variable {cc : ByteArray} {pc : Nat} {ls : Array Slot} {rest : List Value} {dC : Nat → ClassId} {dI : Nat → Nat → Nat} {q : Nat → Nat} {cA : Nat → ClassId} {σ : MZ_} {H0 : Heap} {A : Nat → Prop}

theorem cw_S_52 (hts : ∀ w ∈ AW_, w.before args s = true) (hR : rm_G_allows.frames + 1 ≤ R.frames ∧ 8 + (5 + 11) + rm_G_allows.locals ≤ R.locals) : CallW R s args "StagedParsers" "StagedParsers$Grammar" 52 y_G_allows prog_4_method_14_code 5 (some .boolean) w_G_allows rm_G_allows 0 0 4 :=
  ⟨callB_of 4 hts (aw_in kw_431) rfl rfl rfl (hts _ kw_2) (hts _ kw_428) ⟨by decide, by decide, by decide +kernel⟩ hR, hts _ kw_429, hts _ kw_430⟩
theorem cw_S_63 (hts : ∀ w ∈ AW_, w.before args s = true) (hR : rm_G_isFull.frames + 1 ≤ R.frames ∧ 8 + (1 + 11) + rm_G_isFull.locals ≤ R.locals) : CallW R s args "StagedParsers" "StagedParsers$Grammar" 63 y_G_isFull prog_4_method_3_code 1 (some .boolean) w_G_isFull rm_G_isFull 0 0 0 :=
  ⟨callB_of 0 hts (aw_in kw_515) rfl rfl rfl (hts _ kw_2) (hts _ kw_512) ⟨by decide, by decide, by decide +kernel⟩ hR, hts _ kw_513, hts _ kw_514⟩
theorem cw_S_72 (hts : ∀ w ∈ AW_, w.before args s = true) (hR : rm_G_add.frames + 1 ≤ R.frames ∧ 8 + (6 + 11) + rm_G_add.locals ≤ R.locals) : CallW R s args "StagedParsers" "StagedParsers$Grammar" 72 y_G_add prog_4_method_15_code 6 (some .int) w_G_add rm_G_add 0 0 4 :=
  ⟨callB_of 4 hts (aw_in kw_535) rfl rfl rfl (hts _ kw_2) (hts _ kw_532) ⟨by decide, by decide, by decide +kernel⟩ hR, hts _ kw_533, hts _ kw_534⟩
end RW
def f_S_node (σ : MZ_) (a1 : Int32) (a2 : Int32) (a3 : Int32) (a4 : Int32) : Option (Int32 × MZ_) :=
  (f_G_allows σ a1 a2 a3 a4).bind fun r1 => if r1 = 0 then none
  else (f_G_isFull σ).bind fun r2 => if r2 = 0 then (f_G_add σ a1 a2 a3 a4).bind fun u3 => some (u3.1, u3.2)
  else none
set_option maxHeartbeats 4000000 in
set_option maxRecDepth 100000 in
theorem c_S_node (l : Launch) (dC : Nat → ClassId) (dI : Nat → Nat → Nat) (q : Nat → Nat) (cA : Nat → ClassId) (pt : Nat) (σ : MZ_) (a1 : Int32) (a2 : Int32) (a3 : Int32) (a4 : Int32) (u : Int32 × MZ_) (h : f_S_node σ a1 a2 a3 a4 = some u) : Met l y_S_node w_S_node rm_S_node (va_Pc [.ref (q 0), .int a1, .int a2, .int a3, .int a4] (PX_ dC dI q cA pt σ)) (QW_ (some (.int u.1)) (fun H => va_P (dC, dI) cls_ (wX q cA u.2) H) (AX q)) 0 0 (AX q) := by
  refine Met.ofW (cc := prog_1_method_2_code) (maxL := 5) (ret := (some .int)) (by decide) rfl ?_
  intro p e s m args below meth c s₁ B hml hv
  obtain ⟨rfl, hP, hK, hD, hN, hZ⟩ := hv
  have hx := B.exec
  have hb := B.bytes
  have hr := B.returns
  have hts : ∀ w ∈ AW_, w.before _ s = true := fun w h => atoms_spec (ws := w_S_node) B.pre w (List.mem_cons_of_mem _ h)
  have hown : s.vm.findClass "StagedParsers" = some m.cls := findClass_of_methodNamed B.named
  have hlocks := B.notSynchronized
  have hS : va_S (AX q) s.heap s.heap [] := va_S.rf
  have hl := lv_entry ([.ref (q 0), .int a1, .int a2, .int a3, .int a4]) (n := 5) (Nat.le_of_ble_eq_true rfl)
  rw [lg_entry_eq]
  generalize (lg_sl ([.ref (q 0), .int a1, .int a2, .int a3, .int a4]) ++ List.replicate (5 - (lg_sl ([.ref (q 0), .int a1, .int a2, .int a3, .int a4])).length) Slot.unset).toArray = ls at hl ⊢
  have hl : lv_has ls 5 [(0, .ref (q 0)), (1, .int a1), (2, .int a2), (3, .int a3), (4, .int a4)] := hl
  rw [f_S_node] at h
  refine lv_aload_n hx hb d_S_node_0 rfl (lv_at hl 0 rfl) ?_
  refine gf_S_12 hx hb hts hown hK hP d_S_node_1 ?_
  refine lv_iload_n hx hb d_S_node_4 rfl (lv_at hl 1 rfl) ?_
  refine lv_iload_n hx hb d_S_node_5 rfl (lv_at hl 2 rfl) ?_
  refine lv_iload_n hx hb d_S_node_6 rfl (lv_at hl 3 rfl) ?_
  refine lv_iload hx hb d_S_node_7 (lv_at hl 4 rfl) ?_
  obtain ⟨r1, hcl, h⟩ := bd_some h
  refine cx_read (va_runV (As := [.int a1, .int a2, .int a3, .int a4]) (rest := []) ⟨hx, hb, hml, hown, hts⟩ (c_G_allows l dC dI q cA pt σ a1 a2 a3 a4 _ hcl) (cw_S_52 hts ⟨Nat.le_of_ble_eq_true rfl, Nat.le_of_ble_eq_true rfl⟩) ⟨pxX_B, va_recv hK hP (ci := 1) (q0 := 1) rfl rfl, pxX_U hP hK hD hN hZ hS⟩ rfl rfl hl.1 rfl (lv_room (Nat.le_of_ble_eq_true rfl)) d_S_node_9 ⟨Nat.zero_le _, Nat.zero_le _⟩) ?_
  refine lv_if_ne (tgt := 25) hx hb d_S_node_12 rfl (fun hc => ?_) (fun hc => ?_)
  · have h := if_f hc h
    refine lv_aload_n hx hb d_S_node_25 rfl (lv_at hl 0 rfl) ?_
    refine gf_S_12 hx hb hts hown hK hP d_S_node_26 ?_
    obtain ⟨r2, hcl, h⟩ := bd_some h
    refine cx_read (va_runV (As := []) (rest := []) ⟨hx, hb, hml, hown, hts⟩ (c_G_isFull l dC dI q cA pt σ _ hcl) (cw_S_63 hts ⟨Nat.le_of_ble_eq_true rfl, Nat.le_of_ble_eq_true rfl⟩) ⟨pxX_B, va_recv hK hP (ci := 1) (q0 := 1) rfl rfl, pxX_U hP hK hD hN hZ hS⟩ rfl rfl hl.1 rfl (lv_room (Nat.le_of_ble_eq_true rfl)) d_S_node_29 ⟨Nat.zero_le _, Nat.zero_le _⟩) ?_
    refine lv_if_eq (tgt := 45) hx hb d_S_node_32 rfl (fun hc => ?_) (fun hc => ?_)
    · have h := if_t hc h
      refine lv_aload_n hx hb d_S_node_45 rfl (lv_at hl 0 rfl) ?_
      refine gf_S_12 hx hb hts hown hK hP d_S_node_46 ?_
      refine lv_iload_n hx hb d_S_node_49 rfl (lv_at hl 1 rfl) ?_
      refine lv_iload_n hx hb d_S_node_50 rfl (lv_at hl 2 rfl) ?_
      refine lv_iload_n hx hb d_S_node_51 rfl (lv_at hl 3 rfl) ?_
      refine lv_iload hx hb d_S_node_52 (lv_at hl 4 rfl) ?_
      obtain ⟨u3, hcl, h⟩ := bd_some h
      refine cx_wri (va_runV (As := [.int a1, .int a2, .int a3, .int a4]) (rest := []) ⟨hx, hb, hml, hown, hts⟩ (c_G_add l dC dI q cA pt σ a1 a2 a3 a4 _ hcl) (cw_S_72 hts ⟨Nat.le_of_ble_eq_true rfl, Nat.le_of_ble_eq_true rfl⟩) ⟨pxX_B, va_recv hK hP (ci := 1) (q0 := 1) rfl rfl, pxX_U hP hK hD hN hZ hS⟩ rfl rfl hl.1 rfl (lv_room (Nat.le_of_ble_eq_true rfl)) d_S_node_54 ⟨Nat.zero_le _, Nat.zero_le _⟩) hS (fun _ h => h) (fun H locs hP hS => ?_)
      have hD : va_D (AX q) (wX q cA u3.2) := dd_re (wX_f _ _ _ _) hD
      obtain rfl := Option.some.inj h
      exact W.iret hx hb hr (fun t ht hW => ⟨rfl, by rw [ht]; exact hP, hS.F ht⟩) hS.2.2 d_S_node_57
    · have h := if_f hc h
      cases h
  · have h := if_t hc h
    cases h
def y_S_rule : MethodName := ⟨"StagedParsers", "rule", "(II)I"⟩
def w_S_rule : List Cond := .code y_S_rule prog_1_method_3_code 3 (some .int) :: AW_
def rm_S_rule : Room := { frames := 3, cells := 0, slots := 0, locals := 64 }
def rm_S_rule_t : Room := { frames := 6, cells := 1, slots := 6, locals := 82 }
theorem d_S_rule_0 : decode prog_1_method_3_code 0 = .ok (.aload_n 0, 1) := by decide +kernel
theorem d_S_rule_1 : decode prog_1_method_3_code 1 = .ok (.getfield 12, 3) := by decide +kernel
theorem d_S_rule_4 : decode prog_1_method_3_code 4 = .ok (.iload_n 1, 1) := by decide +kernel
theorem d_S_rule_5 : decode prog_1_method_3_code 5 = .ok (.invokevirtual 76, 3) := by decide +kernel
theorem d_S_rule_8 : decode prog_1_method_3_code 8 = .ok (.ifCond .eq 14, 3) := by decide +kernel
theorem d_S_rule_11 : decode prog_1_method_3_code 11 = .ok (.aload_n 0, 1) := by decide +kernel
theorem d_S_rule_12 : decode prog_1_method_3_code 12 = .ok (.getfield 12, 3) := by decide +kernel
theorem d_S_rule_15 : decode prog_1_method_3_code 15 = .ok (.iload_n 2, 1) := by decide +kernel
theorem d_S_rule_16 : decode prog_1_method_3_code 16 = .ok (.invokevirtual 80, 3) := by decide +kernel
theorem d_S_rule_19 : decode prog_1_method_3_code 19 = .ok (.ifCond .ne 13, 3) := by decide +kernel
theorem d_S_rule_32 : decode prog_1_method_3_code 32 = .ok (.aload_n 0, 1) := by decide +kernel
theorem d_S_rule_33 : decode prog_1_method_3_code 33 = .ok (.getfield 12, 3) := by decide +kernel
theorem d_S_rule_36 : decode prog_1_method_3_code 36 = .ok (.iload_n 1, 1) := by decide +kernel
theorem d_S_rule_37 : decode prog_1_method_3_code 37 = .ok (.iload_n 2, 1) := by decide +kernel
theorem d_S_rule_38 : decode prog_1_method_3_code 38 = .ok (.invokevirtual 85, 3) := by decide +kernel
theorem d_S_rule_41 : decode prog_1_method_3_code 41 = .ok (.aload_n 0, 1) := by decide +kernel
theorem d_S_rule_42 : decode prog_1_method_3_code 42 = .ok (.iconst 0, 1) := by decide +kernel
theorem d_S_rule_43 : decode prog_1_method_3_code 43 = .ok (.putfield 48, 3) := by decide +kernel
theorem d_S_rule_46 : decode prog_1_method_3_code 46 = .ok (.aload_n 0, 1) := by decide +kernel
theorem d_S_rule_47 : decode prog_1_method_3_code 47 = .ok (.getfield 12, 3) := by decide +kernel
theorem d_S_rule_50 : decode prog_1_method_3_code 50 = .ok (.invokevirtual 89, 3) := by decide +kernel
theorem d_S_rule_53 : decode prog_1_method_3_code 53 = .ok (.ireturn, 1) := by decide +kernel
section RW
variable {p : Program} {l : Launch} {e : Env} {R : Room} {s : State} {m : MethodId} {args : Array Value} {below : List Frame} {meth : Method} {c : Code} {H : Heap} {locs : List Loc} {cells slots : Nat} {Q : State → Prop}
variable {cc : ByteArray} {pc : Nat} {ls : Array Slot} {rest : List Value} {dC : Nat → ClassId} {dI : Nat → Nat → Nat} {q : Nat → Nat} {cA : Nat → ClassId} {σ : MZ_} {H0 : Heap} {A : Nat → Prop}

theorem cw_S_76 (hts : ∀ w ∈ AW_, w.before args s = true) (hR : rm_G_isRule.frames + 1 ≤ R.frames ∧ 8 + (2 + 11) + rm_G_isRule.locals ≤ R.locals) : CallW R s args "StagedParsers" "StagedParsers$Grammar" 76 y_G_isRule prog_4_method_5_code 2 (some .boolean) w_G_isRule rm_G_isRule 0 0 1 :=
  ⟨callB_of 1 hts (aw_in kw_236) rfl rfl rfl (hts _ kw_2) (hts _ kw_549) ⟨by decide, by decide, by decide +kernel⟩ hR, hts _ kw_234, hts _ kw_235⟩
theorem cw_S_80 (hts : ∀ w ∈ AW_, w.before args s = true) (hR : rm_G_isNode.frames + 1 ≤ R.frames ∧ 8 + (2 + 11) + rm_G_isNode.locals ≤ R.locals) : CallW R s args "StagedParsers" "StagedParsers$Grammar" 80 y_G_isNode prog_4_method_4_code 2 (some .boolean) w_G_isNode rm_G_isNode 0 0 1 :=
  ⟨callB_of 1 hts (aw_in kw_244) rfl rfl rfl (hts _ kw_2) (hts _ kw_550) ⟨by decide, by decide, by decide +kernel⟩ hR, hts _ kw_242, hts _ kw_243⟩
theorem cw_S_85 (hts : ∀ w ∈ AW_, w.before args s = true) (hR : rm_G_setBody.frames + 1 ≤ R.frames ∧ 8 + (3 + 11) + rm_G_setBody.locals ≤ R.locals) : CallW R s args "StagedParsers" "StagedParsers$Grammar" 85 y_G_setBody prog_4_method_8_code 3 none w_G_setBody rm_G_setBody 0 0 2 :=
  ⟨callB_of 2 hts (aw_in kw_555) rfl rfl rfl (hts _ kw_2) (hts _ kw_552) ⟨by decide, by decide, by decide +kernel⟩ hR, hts _ kw_553, hts _ kw_554⟩
end RW
def f_S_rule (σ : MZ_) (a1 : Int32) (a2 : Int32) : Option (Int32 × MZ_) :=
  (f_G_isRule a1).bind fun r1 => if r1 = 0 then none
  else (f_G_isNode σ a2).bind fun r2 => if r2 = 0 then none
  else (f_G_setBody σ a1 a2).bind fun u3 => st_ (va_up u3 30 (fun _ => 0)) fun σ1 => (f_G_bodies σ1).bind fun r4 => some (r4, σ1)
set_option maxHeartbeats 4000000 in
set_option maxRecDepth 100000 in
theorem c_S_rule (l : Launch) (dC : Nat → ClassId) (dI : Nat → Nat → Nat) (q : Nat → Nat) (cA : Nat → ClassId) (pt : Nat) (σ : MZ_) (a1 : Int32) (a2 : Int32) (u : Int32 × MZ_) (h : f_S_rule σ a1 a2 = some u) : Met l y_S_rule w_S_rule rm_S_rule (va_Pc [.ref (q 0), .int a1, .int a2] (PX_ dC dI q cA pt σ)) (QW_ (some (.int u.1)) (fun H => va_P (dC, dI) cls_ (wX q cA u.2) H) (AX q)) 0 0 (AX q) := by
  refine Met.ofW (cc := prog_1_method_3_code) (maxL := 3) (ret := (some .int)) (by decide) rfl ?_
  intro p e s m args below meth c s₁ B hml hv
  obtain ⟨rfl, hP, hK, hD, hN, hZ⟩ := hv
  have hx := B.exec
  have hb := B.bytes
  have hr := B.returns
  have hts : ∀ w ∈ AW_, w.before _ s = true := fun w h => atoms_spec (ws := w_S_rule) B.pre w (List.mem_cons_of_mem _ h)
  have hown : s.vm.findClass "StagedParsers" = some m.cls := findClass_of_methodNamed B.named
  have hlocks := B.notSynchronized
  have hS : va_S (AX q) s.heap s.heap [] := va_S.rf
  have hl := lv_entry ([.ref (q 0), .int a1, .int a2]) (n := 3) (Nat.le_of_ble_eq_true rfl)
  rw [lg_entry_eq]
  generalize (lg_sl ([.ref (q 0), .int a1, .int a2]) ++ List.replicate (3 - (lg_sl ([.ref (q 0), .int a1, .int a2])).length) Slot.unset).toArray = ls at hl ⊢
  have hl : lv_has ls 3 [(0, .ref (q 0)), (1, .int a1), (2, .int a2)] := hl
  rw [f_S_rule] at h
  refine lv_aload_n hx hb d_S_rule_0 rfl (lv_at hl 0 rfl) ?_
  refine gf_S_12 hx hb hts hown hK hP d_S_rule_1 ?_
  refine lv_iload_n hx hb d_S_rule_4 rfl (lv_at hl 1 rfl) ?_
  obtain ⟨r1, hcl, h⟩ := bd_some h
  refine cx_read (va_runV (As := [.int a1]) (rest := []) ⟨hx, hb, hml, hown, hts⟩ (c_G_isRule l dC dI q cA pt σ a1 _ hcl) (cw_S_76 hts ⟨Nat.le_of_ble_eq_true rfl, Nat.le_of_ble_eq_true rfl⟩) ⟨pxX_B, va_recv hK hP (ci := 1) (q0 := 1) rfl rfl, pxX_U hP hK hD hN hZ hS⟩ rfl rfl hl.1 rfl (lv_room (Nat.le_of_ble_eq_true rfl)) d_S_rule_5 ⟨Nat.zero_le _, Nat.zero_le _⟩) ?_
  refine lv_if_eq (tgt := 22) hx hb d_S_rule_8 rfl (fun hc => ?_) (fun hc => ?_)
  · have h := if_t hc h
    cases h
  · have h := if_f hc h
    refine lv_aload_n hx hb d_S_rule_11 rfl (lv_at hl 0 rfl) ?_
    refine gf_S_12 hx hb hts hown hK hP d_S_rule_12 ?_
    refine lv_iload_n hx hb d_S_rule_15 rfl (lv_at hl 2 rfl) ?_
    obtain ⟨r2, hcl, h⟩ := bd_some h
    refine cx_read (va_runV (As := [.int a2]) (rest := []) ⟨hx, hb, hml, hown, hts⟩ (c_G_isNode l dC dI q cA pt σ a2 _ hcl) (cw_S_80 hts ⟨Nat.le_of_ble_eq_true rfl, Nat.le_of_ble_eq_true rfl⟩) ⟨pxX_B, va_recv hK hP (ci := 1) (q0 := 1) rfl rfl, pxX_U hP hK hD hN hZ hS⟩ rfl rfl hl.1 rfl (lv_room (Nat.le_of_ble_eq_true rfl)) d_S_rule_16 ⟨Nat.zero_le _, Nat.zero_le _⟩) ?_
    refine lv_if_ne (tgt := 32) hx hb d_S_rule_19 rfl (fun hc => ?_) (fun hc => ?_)
    · have h := if_f hc h
      refine lv_aload_n hx hb d_S_rule_32 rfl (lv_at hl 0 rfl) ?_
      refine gf_S_12 hx hb hts hown hK hP d_S_rule_33 ?_
      refine lv_iload_n hx hb d_S_rule_36 rfl (lv_at hl 1 rfl) ?_
      refine lv_iload_n hx hb d_S_rule_37 rfl (lv_at hl 2 rfl) ?_
      obtain ⟨u3, hcl, h⟩ := bd_some h
      refine cx_wrv (va_runV (As := [.int a1, .int a2]) (rest := []) ⟨hx, hb, hml, hown, hts⟩ (c_G_setBody l dC dI q cA pt σ a1 a2 _ hcl) (cw_S_85 hts ⟨Nat.le_of_ble_eq_true rfl, Nat.le_of_ble_eq_true rfl⟩) ⟨pxX_B, va_recv hK hP (ci := 1) (q0 := 1) rfl rfl, pxX_U hP hK hD hN hZ hS⟩ rfl rfl hl.1 rfl (lv_room (Nat.le_of_ble_eq_true rfl)) d_S_rule_38 ⟨Nat.zero_le _, Nat.zero_le _⟩) hS (fun _ h => h) (fun H locs hP hS => ?_)
      have hD : va_D (AX q) (wX q cA u3) := dd_re (wX_f _ _ _ _) hD
      refine lv_aload_n hx hb d_S_rule_41 rfl (lv_at hl 0 rfl) ?_
      refine lv_iconst (v := 0) hx hb d_S_rule_42 (by decide) ?_
      refine pf_S_48 hx hb hts hown hK hP hD hS (Or.inl rfl) d_S_rule_43 (fun H locs hP hS => ?_)
      obtain ⟨σ1, eσ1, h⟩ := st_some h
      rw [← eσ1] at hP
      have hD : va_D (AX q) (wX q cA σ1) := dd_re (wX_f _ _ _ _) hD
      refine lv_aload_n hx hb d_S_rule_46 rfl (lv_at hl 0 rfl) ?_
      refine gf_S_12 hx hb hts hown hK hP d_S_rule_47 ?_
      obtain ⟨r4, hcl, h⟩ := bd_some h
      refine cx_read (va_runV (As := []) (rest := []) ⟨hx, hb, hml, hown, hts⟩ (c_G_bodies l dC dI q cA pt σ1 _ hcl) (cw_S_89 hts ⟨Nat.le_of_ble_eq_true rfl, Nat.le_of_ble_eq_true rfl⟩) ⟨pxX_B, va_recv hK hP (ci := 1) (q0 := 1) rfl rfl, pxX_U hP hK hD hN hZ hS⟩ rfl rfl hl.1 rfl (lv_room (Nat.le_of_ble_eq_true rfl)) d_S_rule_50 ⟨Nat.zero_le _, Nat.zero_le _⟩) ?_
      obtain rfl := Option.some.inj h
      exact W.iret hx hb hr (fun t ht hW => ⟨rfl, by rw [ht]; exact hP, hS.F ht⟩) hS.2.2 d_S_rule_53
    · have h := if_t hc h
      cases h
def y_S_empty : MethodName := ⟨"StagedParsers", "empty", "(I)Z"⟩
def w_S_empty : List Cond := .code y_S_empty prog_1_method_5_code 2 (some .boolean) :: AW_
def rm_S_empty : Room := { frames := 5, cells := 0, slots := 0, locals := 109 }
def rm_S_empty_t : Room := { frames := 6, cells := 1, slots := 6, locals := 109 }
theorem d_S_empty_0 : decode prog_1_method_5_code 0 = .ok (.aload_n 0, 1) := by decide +kernel
theorem d_S_empty_1 : decode prog_1_method_5_code 1 = .ok (.getfield 12, 3) := by decide +kernel
theorem d_S_empty_4 : decode prog_1_method_5_code 4 = .ok (.iload_n 1, 1) := by decide +kernel
theorem d_S_empty_5 : decode prog_1_method_5_code 5 = .ok (.invokevirtual 80, 3) := by decide +kernel
theorem d_S_empty_8 : decode prog_1_method_5_code 8 = .ok (.ifCond .ne 13, 3) := by decide +kernel
theorem d_S_empty_21 : decode prog_1_method_5_code 21 = .ok (.aload_n 0, 1) := by decide +kernel
theorem d_S_empty_22 : decode prog_1_method_5_code 22 = .ok (.getfield 21, 3) := by decide +kernel
theorem d_S_empty_25 : decode prog_1_method_5_code 25 = .ok (.iload_n 1, 1) := by decide +kernel
theorem d_S_empty_26 : decode prog_1_method_5_code 26 = .ok (.invokevirtual 102, 3) := by decide +kernel
theorem d_S_empty_29 : decode prog_1_method_5_code 29 = .ok (.ireturn, 1) := by decide +kernel
section RW
variable {p : Program} {l : Launch} {e : Env} {R : Room} {s : State} {m : MethodId} {args : Array Value} {below : List Frame} {meth : Method} {c : Code} {H : Heap} {locs : List Loc} {cells slots : Nat} {Q : State → Prop}
variable {cc : ByteArray} {pc : Nat} {ls : Array Slot} {rest : List Value} {dC : Nat → ClassId} {dI : Nat → Nat → Nat} {q : Nat → Nat} {cA : Nat → ClassId} {σ : MZ_} {H0 : Heap} {A : Nat → Prop}

theorem cw_S_102 (hts : ∀ w ∈ AW_, w.before args s = true) (hR : rm_Y_isEmpty.frames + 1 ≤ R.frames ∧ 8 + (2 + 11) + rm_Y_isEmpty.locals ≤ R.locals) : CallW R s args "StagedParsers" "StagedParsers$Study" 102 y_Y_isEmpty prog_6_method_2_code 2 (some .boolean) w_Y_isEmpty rm_Y_isEmpty 0 0 1 :=
  ⟨callB_of 1 hts (aw_in kw_567) rfl rfl rfl (hts _ kw_4) (hts _ kw_564) ⟨by decide, by decide, by decide +kernel⟩ hR, hts _ kw_565, hts _ kw_566⟩
end RW
def f_S_empty (σ : MZ_) (a1 : Int32) : Option (Int32 × MZ_) :=
  (f_G_isNode σ a1).bind fun r1 => if r1 = 0 then none
  else (f_Y_isEmpty σ a1).bind fun u2 => bo_ u2.1 (some (u2.1, u2.2))
set_option maxHeartbeats 4000000 in
set_option maxRecDepth 100000 in
theorem c_S_empty (l : Launch) (dC : Nat → ClassId) (dI : Nat → Nat → Nat) (q : Nat → Nat) (cA : Nat → ClassId) (pt : Nat) (σ : MZ_) (a1 : Int32) (u : Int32 × MZ_) (h : f_S_empty σ a1 = some u) : Met l y_S_empty w_S_empty rm_S_empty (va_Pc [.ref (q 0), .int a1] (PX_ dC dI q cA pt σ)) (QW_ (some (.int u.1)) (fun H => va_P (dC, dI) cls_ (wX q cA u.2) H) (AX q)) 0 0 (AX q) := by
  refine Met.ofW (cc := prog_1_method_5_code) (maxL := 2) (ret := (some .boolean)) (by decide) rfl ?_
  intro p e s m args below meth c s₁ B hml hv
  obtain ⟨rfl, hP, hK, hD, hN, hZ⟩ := hv
  have hx := B.exec
  have hb := B.bytes
  have hr := B.returns
  have hts : ∀ w ∈ AW_, w.before _ s = true := fun w h => atoms_spec (ws := w_S_empty) B.pre w (List.mem_cons_of_mem _ h)
  have hown : s.vm.findClass "StagedParsers" = some m.cls := findClass_of_methodNamed B.named
  have hlocks := B.notSynchronized
  have hS : va_S (AX q) s.heap s.heap [] := va_S.rf
  have hl := lv_entry ([.ref (q 0), .int a1]) (n := 2) (Nat.le_of_ble_eq_true rfl)
  rw [lg_entry_eq]
  generalize (lg_sl ([.ref (q 0), .int a1]) ++ List.replicate (2 - (lg_sl ([.ref (q 0), .int a1])).length) Slot.unset).toArray = ls at hl ⊢
  have hl : lv_has ls 2 [(0, .ref (q 0)), (1, .int a1)] := hl
  rw [f_S_empty] at h
  refine lv_aload_n hx hb d_S_empty_0 rfl (lv_at hl 0 rfl) ?_
  refine gf_S_12 hx hb hts hown hK hP d_S_empty_1 ?_
  refine lv_iload_n hx hb d_S_empty_4 rfl (lv_at hl 1 rfl) ?_
  obtain ⟨r1, hcl, h⟩ := bd_some h
  refine cx_read (va_runV (As := [.int a1]) (rest := []) ⟨hx, hb, hml, hown, hts⟩ (c_G_isNode l dC dI q cA pt σ a1 _ hcl) (cw_S_80 hts ⟨Nat.le_of_ble_eq_true rfl, Nat.le_of_ble_eq_true rfl⟩) ⟨pxX_B, va_recv hK hP (ci := 1) (q0 := 1) rfl rfl, pxX_U hP hK hD hN hZ hS⟩ rfl rfl hl.1 rfl (lv_room (Nat.le_of_ble_eq_true rfl)) d_S_empty_5 ⟨Nat.zero_le _, Nat.zero_le _⟩) ?_
  refine lv_if_ne (tgt := 21) hx hb d_S_empty_8 rfl (fun hc => ?_) (fun hc => ?_)
  · have h := if_f hc h
    refine lv_aload_n hx hb d_S_empty_21 rfl (lv_at hl 0 rfl) ?_
    refine gf_S_21 hx hb hts hown hK hP d_S_empty_22 ?_
    refine lv_iload_n hx hb d_S_empty_25 rfl (lv_at hl 1 rfl) ?_
    obtain ⟨u2, hcl, h⟩ := bd_some h
    refine cx_wri (va_runV (As := [.int a1]) (rest := []) ⟨hx, hb, hml, hown, hts⟩ (c_Y_isEmpty l dC dI q cA pt σ a1 _ hcl) (cw_S_102 hts ⟨Nat.le_of_ble_eq_true rfl, Nat.le_of_ble_eq_true rfl⟩) ⟨pxX_B, va_recv hK hP (ci := 2) (q0 := 8) rfl rfl, pxX_U hP hK hD hN hZ hS⟩ rfl rfl hl.1 rfl (lv_room (Nat.le_of_ble_eq_true rfl)) d_S_empty_26 ⟨Nat.zero_le _, Nat.zero_le _⟩) hS (fun _ h => h) (fun H locs hP hS => ?_)
    have hD : va_D (AX q) (wX q cA u2.2) := dd_re (wX_f _ _ _ _) hD
    obtain ⟨hbo, h⟩ := bo_some h
    obtain rfl := Option.some.inj h
    exact W.zret hx hb hr (bo_nar hbo) (fun t ht hW => ⟨rfl, by rw [ht]; exact hP, hS.F ht⟩) hS.2.2 d_S_empty_29
  · have h := if_t hc h
    cases h
def y_S_begins : MethodName := ⟨"StagedParsers", "begins", "(II)Z"⟩
def w_S_begins : List Cond := .code y_S_begins prog_1_method_6_code 3 (some .boolean) :: AW_
def rm_S_begins : Room := { frames := 5, cells := 0, slots := 0, locals := 112 }
def rm_S_begins_t : Room := { frames := 6, cells := 1, slots := 6, locals := 112 }
theorem d_S_begins_0 : decode prog_1_method_6_code 0 = .ok (.aload_n 0, 1) := by decide +kernel
theorem d_S_begins_1 : decode prog_1_method_6_code 1 = .ok (.getfield 12, 3) := by decide +kernel
theorem d_S_begins_4 : decode prog_1_method_6_code 4 = .ok (.iload_n 1, 1) := by decide +kernel
theorem d_S_begins_5 : decode prog_1_method_6_code 5 = .ok (.invokevirtual 80, 3) := by decide +kernel
theorem d_S_begins_8 : decode prog_1_method_6_code 8 = .ok (.ifCond .eq 10, 3) := by decide +kernel
theorem d_S_begins_11 : decode prog_1_method_6_code 11 = .ok (.iload_n 2, 1) := by decide +kernel
theorem d_S_begins_12 : decode prog_1_method_6_code 12 = .ok (.invokestatic 105, 3) := by decide +kernel
theorem d_S_begins_15 : decode prog_1_method_6_code 15 = .ok (.ifCond .ne 13, 3) := by decide +kernel
theorem d_S_begins_28 : decode prog_1_method_6_code 28 = .ok (.aload_n 0, 1) := by decide +kernel
theorem d_S_begins_29 : decode prog_1_method_6_code 29 = .ok (.getfield 21, 3) := by decide +kernel
theorem d_S_begins_32 : decode prog_1_method_6_code 32 = .ok (.iload_n 1, 1) := by decide +kernel
theorem d_S_begins_33 : decode prog_1_method_6_code 33 = .ok (.iload_n 2, 1) := by decide +kernel
theorem d_S_begins_34 : decode prog_1_method_6_code 34 = .ok (.invokevirtual 110, 3) := by decide +kernel
theorem d_S_begins_37 : decode prog_1_method_6_code 37 = .ok (.ireturn, 1) := by decide +kernel
section RW
variable {p : Program} {l : Launch} {e : Env} {R : Room} {s : State} {m : MethodId} {args : Array Value} {below : List Frame} {meth : Method} {c : Code} {H : Heap} {locs : List Loc} {cells slots : Nat} {Q : State → Prop}
variable {cc : ByteArray} {pc : Nat} {ls : Array Slot} {rest : List Value} {dC : Nat → ClassId} {dI : Nat → Nat → Nat} {q : Nat → Nat} {cA : Nat → ClassId} {σ : MZ_} {H0 : Heap} {A : Nat → Prop}

theorem cw_S_105 (hts : ∀ w ∈ AW_, w.before args s = true) (hR : rm_S_isSign.frames + 1 ≤ R.frames ∧ 8 + (1 + 11) + rm_S_isSign.locals ≤ R.locals) : CallB R s args "StagedParsers" 105 y_S_isSign prog_1_method_14_code 1 (some .boolean) w_S_isSign rm_S_isSign 0 0 1 ∧ (Cond.static y_S_isSign).before args s = true :=
  ⟨callB_of 1 hts (aw_in kw_434) rfl rfl rfl (hts _ kw_1) (hts _ kw_575) ⟨by decide, by decide, by decide +kernel⟩ hR, hts _ kw_433⟩
theorem cw_S_110 (hts : ∀ w ∈ AW_, w.before args s = true) (hR : rm_Y_canBegin.frames + 1 ≤ R.frames ∧ 8 + (3 + 11) + rm_Y_canBegin.locals ≤ R.locals) : CallW R s args "StagedParsers" "StagedParsers$Study" 110 y_Y_canBegin prog_6_method_3_code 3 (some .boolean) w_Y_canBegin rm_Y_canBegin 0 0 2 :=
  ⟨callB_of 2 hts (aw_in kw_580) rfl rfl rfl (hts _ kw_4) (hts _ kw_577) ⟨by decide, by decide, by decide +kernel⟩ hR, hts _ kw_578, hts _ kw_579⟩
end RW
def f_S_begins (σ : MZ_) (a1 : Int32) (a2 : Int32) : Option (Int32 × MZ_) :=
  (f_G_isNode σ a1).bind fun r1 => if r1 = 0 then none
  else (f_S_isSign a2).bind fun r2 => if r2 = 0 then none
  else (f_Y_canBegin σ a1 a2).bind fun u3 => bo_ u3.1 (some (u3.1, u3.2))
set_option maxHeartbeats 4000000 in
set_option maxRecDepth 100000 in
theorem c_S_begins (l : Launch) (dC : Nat → ClassId) (dI : Nat → Nat → Nat) (q : Nat → Nat) (cA : Nat → ClassId) (pt : Nat) (σ : MZ_) (a1 : Int32) (a2 : Int32) (u : Int32 × MZ_) (h : f_S_begins σ a1 a2 = some u) : Met l y_S_begins w_S_begins rm_S_begins (va_Pc [.ref (q 0), .int a1, .int a2] (PX_ dC dI q cA pt σ)) (QW_ (some (.int u.1)) (fun H => va_P (dC, dI) cls_ (wX q cA u.2) H) (AX q)) 0 0 (AX q) := by
  refine Met.ofW (cc := prog_1_method_6_code) (maxL := 3) (ret := (some .boolean)) (by decide) rfl ?_
  intro p e s m args below meth c s₁ B hml hv
  obtain ⟨rfl, hP, hK, hD, hN, hZ⟩ := hv
  have hx := B.exec
  have hb := B.bytes
  have hr := B.returns
  have hts : ∀ w ∈ AW_, w.before _ s = true := fun w h => atoms_spec (ws := w_S_begins) B.pre w (List.mem_cons_of_mem _ h)
  have hown : s.vm.findClass "StagedParsers" = some m.cls := findClass_of_methodNamed B.named
  have hlocks := B.notSynchronized
  have hS : va_S (AX q) s.heap s.heap [] := va_S.rf
  have hl := lv_entry ([.ref (q 0), .int a1, .int a2]) (n := 3) (Nat.le_of_ble_eq_true rfl)
  rw [lg_entry_eq]
  generalize (lg_sl ([.ref (q 0), .int a1, .int a2]) ++ List.replicate (3 - (lg_sl ([.ref (q 0), .int a1, .int a2])).length) Slot.unset).toArray = ls at hl ⊢
  have hl : lv_has ls 3 [(0, .ref (q 0)), (1, .int a1), (2, .int a2)] := hl
  rw [f_S_begins] at h
  refine lv_aload_n hx hb d_S_begins_0 rfl (lv_at hl 0 rfl) ?_
  refine gf_S_12 hx hb hts hown hK hP d_S_begins_1 ?_
  refine lv_iload_n hx hb d_S_begins_4 rfl (lv_at hl 1 rfl) ?_
  obtain ⟨r1, hcl, h⟩ := bd_some h
  refine cx_read (va_runV (As := [.int a1]) (rest := []) ⟨hx, hb, hml, hown, hts⟩ (c_G_isNode l dC dI q cA pt σ a1 _ hcl) (cw_S_80 hts ⟨Nat.le_of_ble_eq_true rfl, Nat.le_of_ble_eq_true rfl⟩) ⟨pxX_B, va_recv hK hP (ci := 1) (q0 := 1) rfl rfl, pxX_U hP hK hD hN hZ hS⟩ rfl rfl hl.1 rfl (lv_room (Nat.le_of_ble_eq_true rfl)) d_S_begins_5 ⟨Nat.zero_le _, Nat.zero_le _⟩) ?_
  refine lv_if_eq (tgt := 18) hx hb d_S_begins_8 rfl (fun hc => ?_) (fun hc => ?_)
  · have h := if_t hc h
    cases h
  · have h := if_f hc h
    refine lv_iload_n hx hb d_S_begins_11 rfl (lv_at hl 2 rfl) ?_
    obtain ⟨r2, hcl, h⟩ := bd_some h
    refine cx_read (va_runS (As := [.int a2]) (rest := []) ⟨hx, hb, hml, hown, hts⟩ (c_S_isSign l dC dI q cA pt σ a2 _ hcl) (cw_S_105 hts ⟨Nat.le_of_ble_eq_true rfl, Nat.le_of_ble_eq_true rfl⟩) ⟨pxX_B, pxX_U hP hK hD hN hZ hS⟩ rfl rfl hl.1 rfl (lv_room (Nat.le_of_ble_eq_true rfl)) d_S_begins_12 ⟨Nat.zero_le _, Nat.zero_le _⟩) ?_
    refine lv_if_ne (tgt := 28) hx hb d_S_begins_15 rfl (fun hc => ?_) (fun hc => ?_)
    · have h := if_f hc h
      refine lv_aload_n hx hb d_S_begins_28 rfl (lv_at hl 0 rfl) ?_
      refine gf_S_21 hx hb hts hown hK hP d_S_begins_29 ?_
      refine lv_iload_n hx hb d_S_begins_32 rfl (lv_at hl 1 rfl) ?_
      refine lv_iload_n hx hb d_S_begins_33 rfl (lv_at hl 2 rfl) ?_
      obtain ⟨u3, hcl, h⟩ := bd_some h
      refine cx_wri (va_runV (As := [.int a1, .int a2]) (rest := []) ⟨hx, hb, hml, hown, hts⟩ (c_Y_canBegin l dC dI q cA pt σ a1 a2 _ hcl) (cw_S_110 hts ⟨Nat.le_of_ble_eq_true rfl, Nat.le_of_ble_eq_true rfl⟩) ⟨pxX_B, va_recv hK hP (ci := 2) (q0 := 8) rfl rfl, pxX_U hP hK hD hN hZ hS⟩ rfl rfl hl.1 rfl (lv_room (Nat.le_of_ble_eq_true rfl)) d_S_begins_34 ⟨Nat.zero_le _, Nat.zero_le _⟩) hS (fun _ h => h) (fun H locs hP hS => ?_)
      have hD : va_D (AX q) (wX q cA u3.2) := dd_re (wX_f _ _ _ _) hD
      obtain ⟨hbo, h⟩ := bo_some h
      obtain rfl := Option.some.inj h
      exact W.zret hx hb hr (bo_nar hbo) (fun t ht hW => ⟨rfl, by rw [ht]; exact hP, hS.F ht⟩) hS.2.2 d_S_begins_37
    · have h := if_t hc h
      cases h
def y_S_leads : MethodName := ⟨"StagedParsers", "leads", "(I)I"⟩
def w_S_leads : List Cond := .code y_S_leads prog_1_method_7_code 2 (some .int) :: AW_
def rm_S_leads : Room := { frames := 6, cells := 0, slots := 0, locals := 131 }
def rm_S_leads_t : Room := { frames := 6, cells := 1, slots := 6, locals := 131 }
theorem d_S_leads_0 : decode prog_1_method_7_code 0 = .ok (.aload_n 0, 1) := by decide +kernel
theorem d_S_leads_1 : decode prog_1_method_7_code 1 = .ok (.getfield 12, 3) := by decide +kernel
theorem d_S_leads_4 : decode prog_1_method_7_code 4 = .ok (.iload_n 1, 1) := by decide +kernel
theorem d_S_leads_5 : decode prog_1_method_7_code 5 = .ok (.invokevirtual 76, 3) := by decide +kernel
theorem d_S_leads_8 : decode prog_1_method_7_code 8 = .ok (.ifCond .ne 13, 3) := by decide +kernel
theorem d_S_leads_21 : decode prog_1_method_7_code 21 = .ok (.aload_n 0, 1) := by decide +kernel
theorem d_S_leads_22 : decode prog_1_method_7_code 22 = .ok (.getfield 21, 3) := by decide +kernel
theorem d_S_leads_25 : decode prog_1_method_7_code 25 = .ok (.iload_n 1, 1) := by decide +kernel
theorem d_S_leads_26 : decode prog_1_method_7_code 26 = .ok (.invokevirtual 116, 3) := by decide +kernel
theorem d_S_leads_29 : decode prog_1_method_7_code 29 = .ok (.ireturn, 1) := by decide +kernel
section RW
variable {p : Program} {l : Launch} {e : Env} {R : Room} {s : State} {m : MethodId} {args : Array Value} {below : List Frame} {meth : Method} {c : Code} {H : Heap} {locs : List Loc} {cells slots : Nat} {Q : State → Prop}
variable {cc : ByteArray} {pc : Nat} {ls : Array Slot} {rest : List Value} {dC : Nat → ClassId} {dI : Nat → Nat → Nat} {q : Nat → Nat} {cA : Nat → ClassId} {σ : MZ_} {H0 : Heap} {A : Nat → Prop}

theorem cw_S_116 (hts : ∀ w ∈ AW_, w.before args s = true) (hR : rm_Y_ledTo.frames + 1 ≤ R.frames ∧ 8 + (2 + 11) + rm_Y_ledTo.locals ≤ R.locals) : CallW R s args "StagedParsers" "StagedParsers$Study" 116 y_Y_ledTo prog_6_method_4_code 2 (some .int) w_Y_ledTo rm_Y_ledTo 0 0 1 :=
  ⟨callB_of 1 hts (aw_in kw_600) rfl rfl rfl (hts _ kw_4) (hts _ kw_597) ⟨by decide, by decide, by decide +kernel⟩ hR, hts _ kw_598, hts _ kw_599⟩
end RW
def f_S_leads (σ : MZ_) (a1 : Int32) : Option (Int32 × MZ_) :=
  (f_G_isRule a1).bind fun r1 => if r1 = 0 then none
  else (f_Y_ledTo σ a1).bind fun u2 => some (u2.1, u2.2)
set_option maxHeartbeats 4000000 in
set_option maxRecDepth 100000 in
theorem c_S_leads (l : Launch) (dC : Nat → ClassId) (dI : Nat → Nat → Nat) (q : Nat → Nat) (cA : Nat → ClassId) (pt : Nat) (σ : MZ_) (a1 : Int32) (u : Int32 × MZ_) (h : f_S_leads σ a1 = some u) : Met l y_S_leads w_S_leads rm_S_leads (va_Pc [.ref (q 0), .int a1] (PX_ dC dI q cA pt σ)) (QW_ (some (.int u.1)) (fun H => va_P (dC, dI) cls_ (wX q cA u.2) H) (AX q)) 0 0 (AX q) := by
  refine Met.ofW (cc := prog_1_method_7_code) (maxL := 2) (ret := (some .int)) (by decide) rfl ?_
  intro p e s m args below meth c s₁ B hml hv
  obtain ⟨rfl, hP, hK, hD, hN, hZ⟩ := hv
  have hx := B.exec
  have hb := B.bytes
  have hr := B.returns
  have hts : ∀ w ∈ AW_, w.before _ s = true := fun w h => atoms_spec (ws := w_S_leads) B.pre w (List.mem_cons_of_mem _ h)
  have hown : s.vm.findClass "StagedParsers" = some m.cls := findClass_of_methodNamed B.named
  have hlocks := B.notSynchronized
  have hS : va_S (AX q) s.heap s.heap [] := va_S.rf
  have hl := lv_entry ([.ref (q 0), .int a1]) (n := 2) (Nat.le_of_ble_eq_true rfl)
  rw [lg_entry_eq]
  generalize (lg_sl ([.ref (q 0), .int a1]) ++ List.replicate (2 - (lg_sl ([.ref (q 0), .int a1])).length) Slot.unset).toArray = ls at hl ⊢
  have hl : lv_has ls 2 [(0, .ref (q 0)), (1, .int a1)] := hl
  rw [f_S_leads] at h
  refine lv_aload_n hx hb d_S_leads_0 rfl (lv_at hl 0 rfl) ?_
  refine gf_S_12 hx hb hts hown hK hP d_S_leads_1 ?_
  refine lv_iload_n hx hb d_S_leads_4 rfl (lv_at hl 1 rfl) ?_
  obtain ⟨r1, hcl, h⟩ := bd_some h
  refine cx_read (va_runV (As := [.int a1]) (rest := []) ⟨hx, hb, hml, hown, hts⟩ (c_G_isRule l dC dI q cA pt σ a1 _ hcl) (cw_S_76 hts ⟨Nat.le_of_ble_eq_true rfl, Nat.le_of_ble_eq_true rfl⟩) ⟨pxX_B, va_recv hK hP (ci := 1) (q0 := 1) rfl rfl, pxX_U hP hK hD hN hZ hS⟩ rfl rfl hl.1 rfl (lv_room (Nat.le_of_ble_eq_true rfl)) d_S_leads_5 ⟨Nat.zero_le _, Nat.zero_le _⟩) ?_
  refine lv_if_ne (tgt := 21) hx hb d_S_leads_8 rfl (fun hc => ?_) (fun hc => ?_)
  · have h := if_f hc h
    refine lv_aload_n hx hb d_S_leads_21 rfl (lv_at hl 0 rfl) ?_
    refine gf_S_21 hx hb hts hown hK hP d_S_leads_22 ?_
    refine lv_iload_n hx hb d_S_leads_25 rfl (lv_at hl 1 rfl) ?_
    obtain ⟨u2, hcl, h⟩ := bd_some h
    refine cx_wri (va_runV (As := [.int a1]) (rest := []) ⟨hx, hb, hml, hown, hts⟩ (c_Y_ledTo l dC dI q cA pt σ a1 _ hcl) (cw_S_116 hts ⟨Nat.le_of_ble_eq_true rfl, Nat.le_of_ble_eq_true rfl⟩) ⟨pxX_B, va_recv hK hP (ci := 2) (q0 := 8) rfl rfl, pxX_U hP hK hD hN hZ hS⟩ rfl rfl hl.1 rfl (lv_room (Nat.le_of_ble_eq_true rfl)) d_S_leads_26 ⟨Nat.zero_le _, Nat.zero_le _⟩) hS (fun _ h => h) (fun H locs hP hS => ?_)
    have hD : va_D (AX q) (wX q cA u2.2) := dd_re (wX_f _ _ _ _) hD
    obtain rfl := Option.some.inj h
    exact W.iret hx hb hr (fun t ht hW => ⟨rfl, by rw [ht]; exact hP, hS.F ht⟩) hS.2.2 d_S_leads_29
  · have h := if_t hc h
    cases h
def y_S_type : MethodName := ⟨"StagedParsers", "type", "(C)I"⟩
def w_S_type : List Cond := .code y_S_type prog_1_method_8_code 2 (some .int) :: AW_
def rm_S_type : Room := { frames := 1, cells := 0, slots := 0, locals := 21 }
def rm_S_type_t : Room := { frames := 6, cells := 1, slots := 6, locals := 82 }
theorem d_S_type_0 : decode prog_1_method_8_code 0 = .ok (.iload_n 1, 1) := by decide +kernel
theorem d_S_type_1 : decode prog_1_method_8_code 1 = .ok (.invokestatic 105, 3) := by decide +kernel
theorem d_S_type_4 : decode prog_1_method_8_code 4 = .ok (.ifCond .ne 13, 3) := by decide +kernel
theorem d_S_type_17 : decode prog_1_method_8_code 17 = .ok (.aload_n 0, 1) := by decide +kernel
theorem d_S_type_18 : decode prog_1_method_8_code 18 = .ok (.getfield 35, 3) := by decide +kernel
theorem d_S_type_21 : decode prog_1_method_8_code 21 = .ok (.invokevirtual 122, 3) := by decide +kernel
theorem d_S_type_24 : decode prog_1_method_8_code 24 = .ok (.ifCond .eq 13, 3) := by decide +kernel
theorem d_S_type_37 : decode prog_1_method_8_code 37 = .ok (.aload_n 0, 1) := by decide +kernel
theorem d_S_type_38 : decode prog_1_method_8_code 38 = .ok (.getfield 35, 3) := by decide +kernel
theorem d_S_type_41 : decode prog_1_method_8_code 41 = .ok (.iload_n 1, 1) := by decide +kernel
theorem d_S_type_42 : decode prog_1_method_8_code 42 = .ok (.invokevirtual 125, 3) := by decide +kernel
theorem d_S_type_45 : decode prog_1_method_8_code 45 = .ok (.aload_n 0, 1) := by decide +kernel
theorem d_S_type_46 : decode prog_1_method_8_code 46 = .ok (.getfield 35, 3) := by decide +kernel
theorem d_S_type_49 : decode prog_1_method_8_code 49 = .ok (.invokevirtual 129, 3) := by decide +kernel
theorem d_S_type_52 : decode prog_1_method_8_code 52 = .ok (.ireturn, 1) := by decide +kernel
section RW
variable {p : Program} {l : Launch} {e : Env} {R : Room} {s : State} {m : MethodId} {args : Array Value} {below : List Frame} {meth : Method} {c : Code} {H : Heap} {locs : List Loc} {cells slots : Nat} {Q : State → Prop}
variable {cc : ByteArray} {pc : Nat} {ls : Array Slot} {rest : List Value} {dC : Nat → ClassId} {dI : Nat → Nat → Nat} {q : Nat → Nat} {cA : Nat → ClassId} {σ : MZ_} {H0 : Heap} {A : Nat → Prop}

theorem cw_S_122 (hts : ∀ w ∈ AW_, w.before args s = true) (hR : rm_T_isFull.frames + 1 ≤ R.frames ∧ 8 + (1 + 11) + rm_T_isFull.locals ≤ R.locals) : CallW R s args "StagedParsers" "StagedParsers$Text" 122 y_T_isFull prog_7_method_2_code 1 (some .boolean) w_T_isFull rm_T_isFull 0 0 0 :=
  ⟨callB_of 0 hts (aw_in kw_612) rfl rfl rfl (hts _ kw_6) (hts _ kw_609) ⟨by decide, by decide, by decide +kernel⟩ hR, hts _ kw_610, hts _ kw_611⟩
theorem cw_S_125 (hts : ∀ w ∈ AW_, w.before args s = true) (hR : rm_T_append.frames + 1 ≤ R.frames ∧ 8 + (2 + 11) + rm_T_append.locals ≤ R.locals) : CallW R s args "StagedParsers" "StagedParsers$Text" 125 y_T_append prog_7_method_4_code 2 none w_T_append rm_T_append 0 0 1 :=
  ⟨callB_of 1 hts (aw_in kw_617) rfl rfl rfl (hts _ kw_6) (hts _ kw_614) ⟨by decide, by decide, by decide +kernel⟩ hR, hts _ kw_615, hts _ kw_616⟩
end RW
def f_S_type (σ : MZ_) (a1 : Int32) : Option (Int32 × MZ_) :=
  (f_S_isSign a1).bind fun r1 => if r1 = 0 then none
  else (f_T_isFull σ).bind fun r2 => if r2 = 0 then (f_T_append σ a1).bind fun u3 => (f_T_size u3).bind fun r4 => some (r4, u3)
  else none
set_option maxHeartbeats 4000000 in
set_option maxRecDepth 100000 in
theorem c_S_type (l : Launch) (dC : Nat → ClassId) (dI : Nat → Nat → Nat) (q : Nat → Nat) (cA : Nat → ClassId) (pt : Nat) (σ : MZ_) (a1 : Int32) (u : Int32 × MZ_) (h : f_S_type σ a1 = some u) : Met l y_S_type w_S_type rm_S_type (va_Pc [.ref (q 0), .int a1] (PX_ dC dI q cA pt σ)) (QW_ (some (.int u.1)) (fun H => va_P (dC, dI) cls_ (wX q cA u.2) H) (AX q)) 0 0 (AX q) := by
  refine Met.ofW (cc := prog_1_method_8_code) (maxL := 2) (ret := (some .int)) (by decide) rfl ?_
  intro p e s m args below meth c s₁ B hml hv
  obtain ⟨rfl, hP, hK, hD, hN, hZ⟩ := hv
  have hx := B.exec
  have hb := B.bytes
  have hr := B.returns
  have hts : ∀ w ∈ AW_, w.before _ s = true := fun w h => atoms_spec (ws := w_S_type) B.pre w (List.mem_cons_of_mem _ h)
  have hown : s.vm.findClass "StagedParsers" = some m.cls := findClass_of_methodNamed B.named
  have hlocks := B.notSynchronized
  have hS : va_S (AX q) s.heap s.heap [] := va_S.rf
  have hl := lv_entry ([.ref (q 0), .int a1]) (n := 2) (Nat.le_of_ble_eq_true rfl)
  rw [lg_entry_eq]
  generalize (lg_sl ([.ref (q 0), .int a1]) ++ List.replicate (2 - (lg_sl ([.ref (q 0), .int a1])).length) Slot.unset).toArray = ls at hl ⊢
  have hl : lv_has ls 2 [(0, .ref (q 0)), (1, .int a1)] := hl
  rw [f_S_type] at h
  refine lv_iload_n hx hb d_S_type_0 rfl (lv_at hl 1 rfl) ?_
  obtain ⟨r1, hcl, h⟩ := bd_some h
  refine cx_read (va_runS (As := [.int a1]) (rest := []) ⟨hx, hb, hml, hown, hts⟩ (c_S_isSign l dC dI q cA pt σ a1 _ hcl) (cw_S_105 hts ⟨Nat.le_of_ble_eq_true rfl, Nat.le_of_ble_eq_true rfl⟩) ⟨pxX_B, pxX_U hP hK hD hN hZ hS⟩ rfl rfl hl.1 rfl (lv_room (Nat.le_of_ble_eq_true rfl)) d_S_type_1 ⟨Nat.zero_le _, Nat.zero_le _⟩) ?_
  refine lv_if_ne (tgt := 17) hx hb d_S_type_4 rfl (fun hc => ?_) (fun hc => ?_)
  · have h := if_f hc h
    refine lv_aload_n hx hb d_S_type_17 rfl (lv_at hl 0 rfl) ?_
    refine gf_S_35 hx hb hts hown hK hP d_S_type_18 ?_
    obtain ⟨r2, hcl, h⟩ := bd_some h
    refine cx_read (va_runV (As := []) (rest := []) ⟨hx, hb, hml, hown, hts⟩ (c_T_isFull l dC dI q cA pt σ _ hcl) (cw_S_122 hts ⟨Nat.le_of_ble_eq_true rfl, Nat.le_of_ble_eq_true rfl⟩) ⟨pxX_B, va_recv hK hP (ci := 4) (q0 := 20) rfl rfl, pxX_U hP hK hD hN hZ hS⟩ rfl rfl hl.1 rfl (lv_room (Nat.le_of_ble_eq_true rfl)) d_S_type_21 ⟨Nat.zero_le _, Nat.zero_le _⟩) ?_
    refine lv_if_eq (tgt := 37) hx hb d_S_type_24 rfl (fun hc => ?_) (fun hc => ?_)
    · have h := if_t hc h
      refine lv_aload_n hx hb d_S_type_37 rfl (lv_at hl 0 rfl) ?_
      refine gf_S_35 hx hb hts hown hK hP d_S_type_38 ?_
      refine lv_iload_n hx hb d_S_type_41 rfl (lv_at hl 1 rfl) ?_
      obtain ⟨u3, hcl, h⟩ := bd_some h
      refine cx_wrv (va_runV (As := [.int a1]) (rest := []) ⟨hx, hb, hml, hown, hts⟩ (c_T_append l dC dI q cA pt σ a1 _ hcl) (cw_S_125 hts ⟨Nat.le_of_ble_eq_true rfl, Nat.le_of_ble_eq_true rfl⟩) ⟨pxX_B, va_recv hK hP (ci := 4) (q0 := 20) rfl rfl, pxX_U hP hK hD hN hZ hS⟩ rfl rfl hl.1 rfl (lv_room (Nat.le_of_ble_eq_true rfl)) d_S_type_42 ⟨Nat.zero_le _, Nat.zero_le _⟩) hS (fun _ h => h) (fun H locs hP hS => ?_)
      have hD : va_D (AX q) (wX q cA u3) := dd_re (wX_f _ _ _ _) hD
      refine lv_aload_n hx hb d_S_type_45 rfl (lv_at hl 0 rfl) ?_
      refine gf_S_35 hx hb hts hown hK hP d_S_type_46 ?_
      obtain ⟨r4, hcl, h⟩ := bd_some h
      refine cx_read (va_runV (As := []) (rest := []) ⟨hx, hb, hml, hown, hts⟩ (c_T_size l dC dI q cA pt u3 _ hcl) (cw_S_129 hts ⟨Nat.le_of_ble_eq_true rfl, Nat.le_of_ble_eq_true rfl⟩) ⟨pxX_B, va_recv hK hP (ci := 4) (q0 := 20) rfl rfl, pxX_U hP hK hD hN hZ hS⟩ rfl rfl hl.1 rfl (lv_room (Nat.le_of_ble_eq_true rfl)) d_S_type_49 ⟨Nat.zero_le _, Nat.zero_le _⟩) ?_
      obtain rfl := Option.some.inj h
      exact W.iret hx hb hr (fun t ht hW => ⟨rfl, by rw [ht]; exact hP, hS.F ht⟩) hS.2.2 d_S_type_52
    · have h := if_f hc h
      cases h
  · have h := if_t hc h
    cases h
def y_S_parse : MethodName := ⟨"StagedParsers", "parse", "(I)I"⟩
def w_S_parse : List Cond := .code y_S_parse prog_1_method_10_code 2 (some .int) :: AW_
def rm_S_parse : Room := { frames := 6, cells := 0, slots := 0, locals := 133 }
def rm_S_parse_t : Room := { frames := 6, cells := 1, slots := 6, locals := 133 }
theorem d_S_parse_0 : decode prog_1_method_10_code 0 = .ok (.aload_n 0, 1) := by decide +kernel
theorem d_S_parse_1 : decode prog_1_method_10_code 1 = .ok (.getfield 48, 3) := by decide +kernel
theorem d_S_parse_4 : decode prog_1_method_10_code 4 = .ok (.ifCond .ne 13, 3) := by decide +kernel
theorem d_S_parse_17 : decode prog_1_method_10_code 17 = .ok (.aload_n 0, 1) := by decide +kernel
theorem d_S_parse_18 : decode prog_1_method_10_code 18 = .ok (.getfield 12, 3) := by decide +kernel
theorem d_S_parse_21 : decode prog_1_method_10_code 21 = .ok (.iload_n 1, 1) := by decide +kernel
theorem d_S_parse_22 : decode prog_1_method_10_code 22 = .ok (.invokevirtual 137, 3) := by decide +kernel
theorem d_S_parse_25 : decode prog_1_method_10_code 25 = .ok (.ifCond .ne 13, 3) := by decide +kernel
theorem d_S_parse_38 : decode prog_1_method_10_code 38 = .ok (.aload_n 0, 1) := by decide +kernel
theorem d_S_parse_39 : decode prog_1_method_10_code 39 = .ok (.getfield 44, 3) := by decide +kernel
theorem d_S_parse_42 : decode prog_1_method_10_code 42 = .ok (.iload_n 1, 1) := by decide +kernel
theorem d_S_parse_43 : decode prog_1_method_10_code 43 = .ok (.invokevirtual 142, 3) := by decide +kernel
theorem d_S_parse_46 : decode prog_1_method_10_code 46 = .ok (.aload_n 0, 1) := by decide +kernel
theorem d_S_parse_47 : decode prog_1_method_10_code 47 = .ok (.getfield 44, 3) := by decide +kernel
theorem d_S_parse_50 : decode prog_1_method_10_code 50 = .ok (.invokevirtual 146, 3) := by decide +kernel
theorem d_S_parse_53 : decode prog_1_method_10_code 53 = .ok (.ifCond .eq 13, 3) := by decide +kernel
theorem d_S_parse_66 : decode prog_1_method_10_code 66 = .ok (.aload_n 0, 1) := by decide +kernel
theorem d_S_parse_67 : decode prog_1_method_10_code 67 = .ok (.getfield 44, 3) := by decide +kernel
theorem d_S_parse_70 : decode prog_1_method_10_code 70 = .ok (.invokevirtual 154, 3) := by decide +kernel
theorem d_S_parse_73 : decode prog_1_method_10_code 73 = .ok (.ifCond .ne 13, 3) := by decide +kernel
theorem d_S_parse_86 : decode prog_1_method_10_code 86 = .ok (.aload_n 0, 1) := by decide +kernel
theorem d_S_parse_87 : decode prog_1_method_10_code 87 = .ok (.getfield 44, 3) := by decide +kernel
theorem d_S_parse_90 : decode prog_1_method_10_code 90 = .ok (.invokevirtual 162, 3) := by decide +kernel
theorem d_S_parse_93 : decode prog_1_method_10_code 93 = .ok (.ireturn, 1) := by decide +kernel
section RW
variable {p : Program} {l : Launch} {e : Env} {R : Room} {s : State} {m : MethodId} {args : Array Value} {below : List Frame} {meth : Method} {c : Code} {H : Heap} {locs : List Loc} {cells slots : Nat} {Q : State → Prop}
variable {cc : ByteArray} {pc : Nat} {ls : Array Slot} {rest : List Value} {dC : Nat → ClassId} {dI : Nat → Nat → Nat} {q : Nat → Nat} {cA : Nat → ClassId} {σ : MZ_} {H0 : Heap} {A : Nat → Prop}

theorem cw_S_137 (hts : ∀ w ∈ AW_, w.before args s = true) (hR : rm_G_hasBody.frames + 1 ≤ R.frames ∧ 8 + (2 + 11) + rm_G_hasBody.locals ≤ R.locals) : CallW R s args "StagedParsers" "StagedParsers$Grammar" 137 y_G_hasBody prog_4_method_6_code 2 (some .boolean) w_G_hasBody rm_G_hasBody 0 0 1 :=
  ⟨callB_of 1 hts (aw_in kw_295) rfl rfl rfl (hts _ kw_2) (hts _ kw_628) ⟨by decide, by decide, by decide +kernel⟩ hR, hts _ kw_293, hts _ kw_294⟩
theorem cw_S_142 (hts : ∀ w ∈ AW_, w.before args s = true) (hR : rm_M_run.frames + 1 ≤ R.frames ∧ 8 + (4 + 11) + rm_M_run.locals ≤ R.locals) : CallW R s args "StagedParsers" "StagedParsers$Machine" 142 y_M_run prog_5_method_10_code 4 none w_M_run rm_M_run 0 0 1 :=
  ⟨callB_of 1 hts (aw_in kw_633) rfl rfl rfl (hts _ kw_7) (hts _ kw_630) ⟨by decide, by decide, by decide +kernel⟩ hR, hts _ kw_631, hts _ kw_632⟩
theorem cw_S_162 (hts : ∀ w ∈ AW_, w.before args s = true) (hR : rm_M_answer.frames + 1 ≤ R.frames ∧ 8 + (1 + 11) + rm_M_answer.locals ≤ R.locals) : CallW R s args "StagedParsers" "StagedParsers$Machine" 162 y_M_answer prog_5_method_9_code 1 (some .int) w_M_answer rm_M_answer 0 0 0 :=
  ⟨callB_of 0 hts (aw_in kw_751) rfl rfl rfl (hts _ kw_7) (hts _ kw_804) ⟨by decide, by decide, by decide +kernel⟩ hR, hts _ kw_749, hts _ kw_750⟩
end RW
def f_S_parse (σ : MZ_) (a1 : Int32) : Option (Int32 × MZ_) :=
  if (σ 30 0) = 0 then none
  else (f_G_hasBody σ a1).bind fun r1 => if r1 = 0 then none
  else (f_M_run σ a1).bind fun u2 => (f_M_isTired u2).bind fun r3 => if r3 = 0 then (f_M_hasSucceeded u2).bind fun r4 => if r4 = 0 then none
    else (f_M_answer u2).bind fun r5 => some (r5, u2)
  else none
set_option maxHeartbeats 4000000 in
set_option maxRecDepth 100000 in
theorem c_S_parse (l : Launch) (dC : Nat → ClassId) (dI : Nat → Nat → Nat) (q : Nat → Nat) (cA : Nat → ClassId) (pt : Nat) (σ : MZ_) (a1 : Int32) (u : Int32 × MZ_) (h : f_S_parse σ a1 = some u) : Met l y_S_parse w_S_parse rm_S_parse (va_Pc [.ref (q 0), .int a1] (PX_ dC dI q cA pt σ)) (QW_ (some (.int u.1)) (fun H => va_P (dC, dI) cls_ (wX q cA u.2) H) (AX q)) 0 0 (AX q) := by
  refine Met.ofW (cc := prog_1_method_10_code) (maxL := 2) (ret := (some .int)) (by decide) rfl ?_
  intro p e s m args below meth c s₁ B hml hv
  obtain ⟨rfl, hP, hK, hD, hN, hZ⟩ := hv
  have hx := B.exec
  have hb := B.bytes
  have hr := B.returns
  have hts : ∀ w ∈ AW_, w.before _ s = true := fun w h => atoms_spec (ws := w_S_parse) B.pre w (List.mem_cons_of_mem _ h)
  have hown : s.vm.findClass "StagedParsers" = some m.cls := findClass_of_methodNamed B.named
  have hlocks := B.notSynchronized
  have hS : va_S (AX q) s.heap s.heap [] := va_S.rf
  have hl := lv_entry ([.ref (q 0), .int a1]) (n := 2) (Nat.le_of_ble_eq_true rfl)
  rw [lg_entry_eq]
  generalize (lg_sl ([.ref (q 0), .int a1]) ++ List.replicate (2 - (lg_sl ([.ref (q 0), .int a1])).length) Slot.unset).toArray = ls at hl ⊢
  have hl : lv_has ls 2 [(0, .ref (q 0)), (1, .int a1)] := hl
  rw [f_S_parse] at h
  refine lv_aload_n hx hb d_S_parse_0 rfl (lv_at hl 0 rfl) ?_
  refine gf_S_48 hx hb hts hown hK hP d_S_parse_1 ?_
  refine lv_if_ne (tgt := 17) hx hb d_S_parse_4 rfl (fun hc => ?_) (fun hc => ?_)
  · have h := if_f hc h
    refine lv_aload_n hx hb d_S_parse_17 rfl (lv_at hl 0 rfl) ?_
    refine gf_S_12 hx hb hts hown hK hP d_S_parse_18 ?_
    refine lv_iload_n hx hb d_S_parse_21 rfl (lv_at hl 1 rfl) ?_
    obtain ⟨r1, hcl, h⟩ := bd_some h
    refine cx_read (va_runV (As := [.int a1]) (rest := []) ⟨hx, hb, hml, hown, hts⟩ (c_G_hasBody l dC dI q cA pt σ a1 _ hcl) (cw_S_137 hts ⟨Nat.le_of_ble_eq_true rfl, Nat.le_of_ble_eq_true rfl⟩) ⟨pxX_B, va_recv hK hP (ci := 1) (q0 := 1) rfl rfl, pxX_U hP hK hD hN hZ hS⟩ rfl rfl hl.1 rfl (lv_room (Nat.le_of_ble_eq_true rfl)) d_S_parse_22 ⟨Nat.zero_le _, Nat.zero_le _⟩) ?_
    refine lv_if_ne (tgt := 38) hx hb d_S_parse_25 rfl (fun hc => ?_) (fun hc => ?_)
    · have h := if_f hc h
      refine lv_aload_n hx hb d_S_parse_38 rfl (lv_at hl 0 rfl) ?_
      refine gf_S_44 hx hb hts hown hK hP d_S_parse_39 ?_
      refine lv_iload_n hx hb d_S_parse_42 rfl (lv_at hl 1 rfl) ?_
      obtain ⟨u2, hcl, h⟩ := bd_some h
      refine cx_wrv (va_runV (As := [.int a1]) (rest := []) ⟨hx, hb, hml, hown, hts⟩ (c_M_run l dC dI q cA pt σ a1 _ hcl) (cw_S_142 hts ⟨Nat.le_of_ble_eq_true rfl, Nat.le_of_ble_eq_true rfl⟩) ⟨pxX_B, va_recv hK hP (ci := 5) (q0 := 22) rfl rfl, pxX_U hP hK hD hN hZ hS⟩ rfl rfl hl.1 rfl (lv_room (Nat.le_of_ble_eq_true rfl)) d_S_parse_43 ⟨Nat.zero_le _, Nat.zero_le _⟩) hS (fun _ h => h) (fun H locs hP hS => ?_)
      have hD : va_D (AX q) (wX q cA u2) := dd_re (wX_f _ _ _ _) hD
      refine lv_aload_n hx hb d_S_parse_46 rfl (lv_at hl 0 rfl) ?_
      refine gf_S_44 hx hb hts hown hK hP d_S_parse_47 ?_
      obtain ⟨r3, hcl, h⟩ := bd_some h
      refine cx_read (va_runV (As := []) (rest := []) ⟨hx, hb, hml, hown, hts⟩ (c_M_isTired l dC dI q cA pt u2 _ hcl) (cw_S_146 hts ⟨Nat.le_of_ble_eq_true rfl, Nat.le_of_ble_eq_true rfl⟩) ⟨pxX_B, va_recv hK hP (ci := 5) (q0 := 22) rfl rfl, pxX_U hP hK hD hN hZ hS⟩ rfl rfl hl.1 rfl (lv_room (Nat.le_of_ble_eq_true rfl)) d_S_parse_50 ⟨Nat.zero_le _, Nat.zero_le _⟩) ?_
      refine lv_if_eq (tgt := 66) hx hb d_S_parse_53 rfl (fun hc => ?_) (fun hc => ?_)
      · have h := if_t hc h
        refine lv_aload_n hx hb d_S_parse_66 rfl (lv_at hl 0 rfl) ?_
        refine gf_S_44 hx hb hts hown hK hP d_S_parse_67 ?_
        obtain ⟨r4, hcl, h⟩ := bd_some h
        refine cx_read (va_runV (As := []) (rest := []) ⟨hx, hb, hml, hown, hts⟩ (c_M_hasSucceeded l dC dI q cA pt u2 _ hcl) (cw_S_154 hts ⟨Nat.le_of_ble_eq_true rfl, Nat.le_of_ble_eq_true rfl⟩) ⟨pxX_B, va_recv hK hP (ci := 5) (q0 := 22) rfl rfl, pxX_U hP hK hD hN hZ hS⟩ rfl rfl hl.1 rfl (lv_room (Nat.le_of_ble_eq_true rfl)) d_S_parse_70 ⟨Nat.zero_le _, Nat.zero_le _⟩) ?_
        refine lv_if_ne (tgt := 86) hx hb d_S_parse_73 rfl (fun hc => ?_) (fun hc => ?_)
        · have h := if_f hc h
          refine lv_aload_n hx hb d_S_parse_86 rfl (lv_at hl 0 rfl) ?_
          refine gf_S_44 hx hb hts hown hK hP d_S_parse_87 ?_
          obtain ⟨r5, hcl, h⟩ := bd_some h
          refine cx_read (va_runV (As := []) (rest := []) ⟨hx, hb, hml, hown, hts⟩ (c_M_answer l dC dI q cA pt u2 _ hcl) (cw_S_162 hts ⟨Nat.le_of_ble_eq_true rfl, Nat.le_of_ble_eq_true rfl⟩) ⟨pxX_B, va_recv hK hP (ci := 5) (q0 := 22) rfl rfl, pxX_U hP hK hD hN hZ hS⟩ rfl rfl hl.1 rfl (lv_room (Nat.le_of_ble_eq_true rfl)) d_S_parse_90 ⟨Nat.zero_le _, Nat.zero_le _⟩) ?_
          obtain rfl := Option.some.inj h
          exact W.iret hx hb hr (fun t ht hW => ⟨rfl, by rw [ht]; exact hP, hS.F ht⟩) hS.2.2 d_S_parse_93
        · have h := if_t hc h
          cases h
      · have h := if_f hc h
        cases h
    · have h := if_t hc h
      cases h
  · have h := if_t hc h
    cases h
